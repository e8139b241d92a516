import java.util.Random;

/** Any arguments in any state: no call throws. */
public final class WildTest {
    private static final int OBJECTS = 3000;
    private static final int[] EDGES = {Integer.MIN_VALUE, Integer.MIN_VALUE + 1, -100, -11, -10, -3, -2, -1, 9, 10, 15, 16, 17, 23, 24, 25,
        31, 32, 33, 59, 60, 61, 64, 199, 200, Integer.MAX_VALUE - 1, Integer.MAX_VALUE};

    public static void main(String[] args) {
        int seed = 0;
        int call = 0;
        try {
            for (seed = 0; seed < OBJECTS; seed++) {
                Random random = new Random(seed);
                PurityEffects x = new PurityEffects();
                for (call = 0; call < 512; call++) {
                    any(x, random, call);
                }
            }
        } catch (RuntimeException e) {
            System.out.println("object " + seed + ", call " + call + " threw " + e);
            System.exit(1);
        }
        System.out.println("no call threw");
    }

    private static int wild(Random random) {
        return random.nextInt(5) == 0 ? EDGES[random.nextInt(EDGES.length)] : random.nextInt(9);
    }

    private static int any(PurityEffects x, Random r, int call) {
        int a = wild(r), b = wild(r), c = wild(r), d = wild(r), e = wild(r);
        boolean f = r.nextBoolean();
        int which = call < 200 ? r.nextInt(9) : 6 + r.nextInt(20);
        switch (which) {
            case 0: return x.type(a - 1);
            case 1: return x.field(a, f);
            case 2: return x.shared(f);
            case 3: return x.method(a % 5, b % 5, c % 4);
            case 4: case 5: case 6: return x.line(a, r.nextInt(10) == 0 ? b : r.nextInt(32), c, d, e);
            case 7: return x.caught(a, b, c + 5, d, e);
            case 8: return x.thing(a);
            case 9: return x.array(a);
            case 10: return x.put(a, b, c);
            case 11: return x.set(a, b);
            case 12: return x.get(a, b);
            case 13: return x.stat(a);
            case 14: return x.kind(a);
            case 15: return x.arg(a % 3, f, b % 4, c);
            case 16: return x.analyse();
            case 17: return x.effects(a, b);
            case 18: return x.by(a, b, f);
            case 19: return x.may(a, b, c);
            case 20: return x.free(a, b);
            case 21: return x.run(a) + x.foreseen();
            case 22: return x.did(a);
            case 23: return x.both(a, b);
            case 24: return x.printed(a);
            default: return x.count(a);
        }
    }
}
