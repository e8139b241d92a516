import java.util.ArrayList;
import java.util.Arrays;
import java.util.HashMap;
import java.util.List;
import java.util.Map;
import java.util.Random;
import java.util.TreeMap;

/** Made-up programs and calls; each answer is held against a second implementation, written as plainly as can be. */
public final class OracleTest {
    private static final int OBJECTS = 1500;
    private static int wrong = 0;
    private static final Map<String, Integer> seen = new TreeMap<>();

    public static void main(String[] args) {
        int objects = args.length > 0 ? Integer.parseInt(args[0]) : OBJECTS;
        int first = args.length > 1 ? Integer.parseInt(args[1]) : 0;
        for (int seed = first; seed < first + objects && wrong < 20; seed++) {
            new Session(seed).go();
        }
        for (String must : new String[] {"run 0", "run 1", "run 2", "run 3", "run 4", "run 5", "run 6", "run -4",
                "both 0", "both 1", "both -4", "free and alike", "foreseen", "printed past 200"}) {
            if (!seen.containsKey(must)) {
                wrong++;
                System.out.println("the made-up calls never came to: " + must);
            }
        }
        System.out.println(seen);
        System.out.println(wrong == 0 ? "all answers are as due" : wrong + " answers are not as due");
        if (wrong != 0) {
            System.exit(1);
        }
    }

    private static void saw(String what) {
        seen.merge(what, 1, Integer::sum);
    }

    // ---------------------------------------------------------------- made-up calls

    private static final class Session {
        final int seed;
        final Random random;
        final PurityEffects x = new PurityEffects();
        final Oracle o = new Oracle();
        final List<String> log = new ArrayList<>();
        int calls = 0;
        boolean broken = false;

        Session(int seed) {
            this.seed = seed;
            random = new Random(seed * 7919L + 17);
        }

        boolean due(String call, int got, int want) {
            calls++;
            log.add(call + " -> " + want);
            if (got != want && !broken) {
                broken = true;
                wrong++;
                System.out.println("seed " + seed + ": " + call + " answered " + got + ", due is " + want);
                for (String l : log) {
                    System.out.println("    " + l);
                }
            }
            return got == want;
        }

        int pick(int n) {
            return n <= 0 ? 0 : random.nextInt(n);
        }

        boolean chance(int percent) {
            return random.nextInt(100) < percent;
        }

        void go() {
            int kinds = 1 + pick(4);
            for (int i = 0; i < kinds; i++) {
                int above = chance(60) ? pick(kinds + 1) - 1 : pick(i + 1) - 1;
                due("type(" + above + ")", x.type(above), o.type(above));
            }
            int fields = pick(9);
            for (int i = 0; i < fields; i++) {
                tellField();
            }
            int statics = pick(5);
            for (int i = 0; i < statics; i++) {
                tellShared();
            }
            int methods = 1 + pick(7);
            for (int i = 0; i < methods; i++) {
                int p = pick(chance(5) ? 6 : 4);
                int q = pick(chance(5) ? 6 : 4);
                int r = pick(chance(5) ? 5 : 3);
                due("method(" + p + ", " + q + ", " + r + ")", x.method(p, q, r), o.method(p, q, r));
            }
            for (int m = 0; m < o.methods.size(); m++) {
                int lines = 1 + pick(chance(15) ? 24 : 9);
                for (int l = 0; l < lines && calls < 300; l++) {
                    tellLine(m, l, lines);
                }
                int catches = pick(4);
                for (int k = 0; k < catches; k++) {
                    tellCatch(m, lines);
                }
            }
            if (chance(25)) {
                tellPrinter();
            }
            int things = pick(8);
            for (int i = 0; i < things; i++) {
                tellThing();
            }
            if (chance(70)) {
                lookAtAnalysis();
            }
            while (calls < 500) {
                anything();
            }
        }

        void tellField() {
            int t = pick(o.types.size() + (chance(10) ? 2 : 0));
            boolean r = chance(50);
            due("field(" + t + ", " + r + ")", x.field(t, r), o.field(t, r));
        }

        void tellShared() {
            boolean r = chance(50);
            due("shared(" + r + ")", x.shared(r), o.shared(r));
        }

        void tellLine(int m, int l, int lines) {
            int op = pick(32);
            if (op == 31 && l < lines - 2 && chance(80)) {
                op = 10 + pick(12);
            }
            if (op == 30 && chance(50)) {
                op = 8 + pick(2);
            }
            int a = pick(4), b = pick(4), c = pick(4);
            if (op == 0) {
                c = chance(90) ? pick(7) - 1 : random.nextInt();
            }
            if (op == 8 || op == 27 || op == 29) {
                b = pick(o.types.size());
            }
            if (op >= 10 && op <= 13) {
                c = fieldOf(op >= 12);
            }
            if (op == 16 || op == 18) {
                b = sharedOf(op == 18);
            }
            if (op == 17 || op == 19) {
                a = sharedOf(op == 19);
            }
            if (op == 21) {
                b = pick(o.methods.size());
            }
            if (op >= 23 && op <= 28) {
                c = chance(70) ? Math.min(24, l + 1 + pick(5)) : pick(lines + 2);
            }
            if (chance(4)) {
                int odd = pick(12) - 2;
                switch (pick(4)) {
                    case 0: a = odd; break;
                    case 1: b = odd; break;
                    case 2: c = odd; break;
                    default: op = pick(40) - 3; break;
                }
            }
            due("line(" + m + ", " + op + ", " + a + ", " + b + ", " + c + ")", x.line(m, op, a, b, c), o.line(m, op, a, b, c));
        }

        int fieldOf(boolean reference) {
            for (int i = 0; i < 10; i++) {
                int f = pick(o.fields.size());
                if (f < o.fields.size() && o.fields.get(f).reference == reference) {
                    return f;
                }
            }
            return pick(16);
        }

        int sharedOf(boolean reference) {
            for (int i = 0; i < 10; i++) {
                int s = pick(o.shareds.size());
                if (s < o.shareds.size() && o.shareds.get(s) == reference) {
                    return s;
                }
            }
            return pick(8);
        }

        void tellCatch(int m, int lines) {
            int from = pick(lines), to = from + 1 + pick(lines);
            int fault = pick(3) == 0 ? 0 : pick(10);
            int line = pick(lines + 2);
            if (chance(5)) {
                to = pick(30) - 2;
            }
            if (chance(5)) {
                fault = pick(14) - 2;
            }
            due("caught(" + m + ", " + from + ", " + to + ", " + fault + ", " + line + ")",
                x.caught(m, from, to, fault, line), o.caught(m, from, to, fault, line));
        }

        /** A method that counts down and prints, so that more than 200 numbers come to be printed. */
        void tellPrinter() {
            int m = o.methods.size();
            if (m >= 10) {
                return;
            }
            due("method(1, 0, 0)", x.method(1, 0, 0), o.method(1, 0, 0));
            int[][] lines = {{0, 1, 0, 1}, {22, 0, 0, 0}, {2, 0, 0, 1}, {23, 2, 0, 1}};
            for (int[] l : lines) {
                due("line(" + m + ", " + Arrays.toString(l) + ")", x.line(m, l[0], l[1], l[2], l[3]), o.line(m, l[0], l[1], l[2], l[3]));
            }
            for (int which = 0; which < 2; which++) {
                int n = 1 + pick(180);
                due("arg(" + which + ", false, 0, " + n + ")", x.arg(which, false, 0, n), o.arg(which, false, 0, n));
            }
        }

        void tellThing() {
            if (chance(60)) {
                int t = pick(o.types.size() + (chance(5) ? 2 : 0));
                due("thing(" + t + ")", x.thing(t), o.thing(t));
            } else {
                int n = chance(90) ? pick(5) : pick(22) - 2;
                due("array(" + n + ")", x.array(n), o.array(n));
            }
        }

        void lookAtAnalysis() {
            due("analyse()", x.analyse(), o.analyse());
            for (int m = 0; m < o.methods.size() && calls < 430; m++) {
                for (int what = 0; what < 8; what++) {
                    due("effects(" + m + ", " + what + ")", x.effects(m, what), o.effects(m, what));
                }
                for (int k = 0; k < 3; k++) {
                    lookAtState(m);
                }
            }
        }

        void lookAtState(int m) {
            int way = pick(6) - 1;
            boolean writes = chance(50);
            due("by(" + m + ", " + way + ", " + writes + ")", x.by(m, way, writes), o.by(m, way, writes));
            int l = pick(10), r = pick(chance(90) ? 4 : 10);
            due("may(" + m + ", " + l + ", " + r + ")", x.may(m, l, r), o.may(m, l, r));
        }

        void anything() {
            int m = pick(o.methods.size() + (chance(5) ? 2 : 0));
            int roll = pick(100);
            if (roll < 30) {
                runOne(m);
            } else if (roll < 45) {
                pairOne(m, pick(o.methods.size()));
            } else if (roll < 62) {
                int which = pick(chance(95) ? 2 : 4), k = pick(chance(95) ? 3 : 5);
                boolean r = chance(60);
                int v = r ? pick(o.world.things.size() + 2) - 1 : pick(8) - 2;
                due("arg(" + which + ", " + r + ", " + k + ", " + v + ")", x.arg(which, r, k, v), o.arg(which, r, k, v));
            } else if (roll < 72) {
                int t = pick(o.world.things.size() + 1), k = pick(8), v = pick(8) - 1;
                due("put(" + t + ", " + k + ", " + v + ")", x.put(t, k, v), o.put(t, k, v));
                due("get(" + t + ", " + k + ")", x.get(t, k), o.get(t, k));
            } else if (roll < 78) {
                int s = pick(5), v = pick(8) - 1;
                due("set(" + s + ", " + v + ")", x.set(s, v), o.set(s, v));
                due("stat(" + s + ")", x.stat(s), o.stat(s));
            } else if (roll < 84) {
                tellThing();
            } else if (roll < 88) {
                lookAround();
            } else if (roll < 92) {
                lookAtState(m);
            } else if (roll < 94) {
                due("analyse()", x.analyse(), o.analyse());
            } else if (roll < 95) {
                change(m);
            } else {
                int what = pick(10) - 1;
                due("effects(" + m + ", " + what + ")", x.effects(m, what), o.effects(m, what));
                due("count(" + what + ")", x.count(what), o.count(what));
                due("did(" + what + ")", x.did(what), o.did(what));
            }
        }

        void change(int m) {
            switch (pick(5)) {
                case 0: tellField(); break;
                case 1: tellShared(); break;
                case 2: tellLine(m, 0, 9); break;
                case 3: tellCatch(m, 9); break;
                default: due("type(0)", x.type(0), o.type(0)); break;
            }
        }

        void runOne(int m) {
            int end = o.run(m);
            saw("run " + end);
            due("run(" + m + ")", x.run(m), end);
            for (int what = 0; what < 6; what++) {
                due("did(" + what + ")", x.did(what), o.did(what));
            }
            due("foreseen()", x.foreseen(), 1);
            if (o.analysed && end >= 0) {
                saw("foreseen");
            }
            due("count(4)", x.count(4), o.count(4));
            due("count(5)", x.count(5), o.count(5));
            if (o.count(5) > 200) {
                saw("printed past 200");
            }
            int k = chance(50) ? pick(o.count(5) + 2) - 1 : 195 + pick(8);
            due("printed(" + k + ")", x.printed(k), o.printed(k));
        }

        void pairOne(int a, int b) {
            int end = o.both(a, b);
            saw("both " + end);
            due("both(" + a + ", " + b + ")", x.both(a, b), end);
            int free = o.free(a, b);
            due("free(" + a + ", " + b + ")", x.free(a, b), free);
            if (free == 1 && end != -4) {
                saw("free and alike");
                due("both() of an order free pair", end, 1);
            }
            due("count(4)", x.count(4), o.count(4));
        }

        void lookAround() {
            for (int t = 0; t <= o.world.things.size() && t < 6; t++) {
                due("kind(" + t + ")", x.kind(t), o.kind(t));
                int k = pick(10) - 1;
                due("get(" + t + ", " + k + ")", x.get(t, k), o.get(t, k));
            }
            for (int s = -1; s < 5; s++) {
                due("stat(" + s + ")", x.stat(s), o.stat(s));
            }
        }
    }

    // ---------------------------------------------------------------- the second implementation

    private static final class Fault extends RuntimeException {
        private static final long serialVersionUID = 1;
        final int number;

        Fault(int number) {
            super(null, null, false, false);
            this.number = number;
        }
    }

    private static final class Full extends RuntimeException {
        private static final long serialVersionUID = 1;

        Full() {
            super(null, null, false, false);
        }
    }

    private static final class Field {
        final int owner;
        final boolean reference;

        Field(int owner, boolean reference) {
            this.owner = owner;
            this.reference = reference;
        }
    }

    private static final class Method {
        final int p, q, result;
        final List<int[]> lines = new ArrayList<>();
        final List<int[]> catches = new ArrayList<>();

        Method(int p, int q, int result) {
            this.p = p;
            this.q = q;
            this.result = result;
        }
    }

    private static final class Thing {
        int type = -1;
        int[] items = null;
        Map<Integer, Integer> fields = new TreeMap<>();

        Thing copy() {
            Thing t = new Thing();
            t.type = type;
            t.items = items == null ? null : items.clone();
            t.fields = new TreeMap<>(fields);
            return t;
        }
    }

    private static final class Earth {
        final List<Thing> things = new ArrayList<>();
        final List<Integer> statics = new ArrayList<>();
        final List<Integer> printed = new ArrayList<>();

        Earth copy() {
            Earth e = new Earth();
            for (Thing t : things) {
                e.things.add(t.copy());
            }
            e.statics.addAll(statics);
            e.printed.addAll(printed);
            return e;
        }
    }

    /** What is known of a method: facts are only added. */
    private static final class Known {
        final boolean[][][] may = new boolean[25][8][6];
        final boolean[] reached = new boolean[25];
        final int[] reads = new int[4];
        final int[] writes = new int[4];
        final boolean[] faults = new boolean[10];
        final boolean[] result = new boolean[6];
        boolean prints, ends;

        String text() {
            return Arrays.deepToString(may) + Arrays.toString(reached) + Arrays.toString(reads) + Arrays.toString(writes)
                + Arrays.toString(faults) + Arrays.toString(result) + prints + ends;
        }
    }

    private static final class Oracle {
        final List<Integer> types = new ArrayList<>();
        final List<Field> fields = new ArrayList<>();
        final List<Boolean> shareds = new ArrayList<>();
        final List<Method> methods = new ArrayList<>();
        Earth world = new Earth();
        final int[][] nargs = new int[2][3];
        final int[][] rargs = {{-1, -1, -1}, {-1, -1, -1}};
        boolean analysed = false;
        List<Known> known = new ArrayList<>();

        int reads, writes, prints, lines, made, result, faultLines, there;
        int[] did = new int[6];

        boolean below(int t, int top) {
            return t == top || t >= 0 && below(types.get(t), top);
        }

        boolean has(Thing t, int f) {
            return t.items == null && f >= 0 && f < fields.size() && below(t.type, fields.get(f).owner);
        }

        boolean is(int n, int size) {
            return n >= 0 && n < size;
        }

        int type(int above) {
            if (above != -1 && !is(above, types.size())) return -1;
            if (types.size() == 8) return -3;
            analysed = false;
            types.add(above);
            return types.size() - 1;
        }

        int field(int t, boolean r) {
            if (!is(t, types.size())) return -1;
            if (fields.size() == 16) return -3;
            for (Thing x : world.things) {
                if (x.items == null && below(x.type, t)) return -2;
            }
            analysed = false;
            fields.add(new Field(t, r));
            return fields.size() - 1;
        }

        int shared(boolean r) {
            if (shareds.size() == 8) return -3;
            analysed = false;
            shareds.add(r);
            world.statics.add(r ? -1 : 0);
            return shareds.size() - 1;
        }

        int method(int p, int q, int r) {
            if (!is(p, 4) || !is(q, 4) || !is(r, 3)) return -2;
            if (methods.size() == 10) return -3;
            analysed = false;
            methods.add(new Method(p, q, r));
            return methods.size() - 1;
        }

        boolean local(int... all) {
            for (int x : all) {
                if (!is(x, 8)) return false;
            }
            return true;
        }

        boolean fieldIs(int f, boolean r) {
            return is(f, fields.size()) && fields.get(f).reference == r;
        }

        boolean sharedIs(int s, boolean r) {
            return is(s, shareds.size()) && shareds.get(s) == r;
        }

        boolean fits(Method m, int op, int a, int b, int c) {
            switch (op) {
                case 0: case 6: case 22: return local(a);
                case 1: case 2: case 3: case 4: case 5: case 14: case 15: return local(a, b, c);
                case 7: case 9: case 20: return local(a, b);
                case 8: case 29: return local(a) && is(b, types.size());
                case 10: case 11: return local(a, b) && fieldIs(c, false);
                case 12: case 13: return local(a, b) && fieldIs(c, true);
                case 16: return local(a) && sharedIs(b, false);
                case 17: return local(b) && sharedIs(a, false);
                case 18: return local(a) && sharedIs(b, true);
                case 19: return local(b) && sharedIs(a, true);
                case 21: return local(a, c) && is(b, methods.size()) && a + methods.get(b).p <= 8 && c + methods.get(b).q <= 8;
                case 23: case 24: case 26: return local(a, b) && is(c, 25);
                case 25: return local(a) && is(c, 25);
                case 27: return local(a) && is(b, types.size()) && is(c, 25);
                case 28: return is(c, 25);
                case 30: return is(a, 4);
                case 31: return m.result == 0 || local(a);
                default: return false;
            }
        }

        int line(int m, int op, int a, int b, int c) {
            if (!is(m, methods.size())) return -1;
            if (!fits(methods.get(m), op, a, b, c)) return -2;
            if (methods.get(m).lines.size() == 24) return -3;
            analysed = false;
            methods.get(m).lines.add(new int[] {op, a, b, c});
            return methods.get(m).lines.size() - 1;
        }

        int caught(int m, int from, int to, int fault, int line) {
            if (!is(m, methods.size())) return -1;
            if (from >= to || !is(from, 25) || !is(to, 25) || !is(fault, 10) || !is(line, 25)) return -2;
            if (methods.get(m).catches.size() == 4) return -3;
            analysed = false;
            methods.get(m).catches.add(new int[] {from, to, fault, line});
            return methods.get(m).catches.size() - 1;
        }

        int catchOf(Method m, int line, int fault) {
            for (int[] k : m.catches) {
                if (line >= k[0] && line < k[1] && (k[2] == 0 || k[2] == fault)) return k[3];
            }
            return -1;
        }

        int make(int type, int n) {
            Thing t = new Thing();
            t.type = type;
            if (type < 0) {
                t.items = new int[n];
            } else {
                for (int f = 0; f < fields.size(); f++) {
                    if (has(t, f)) t.fields.put(f, fields.get(f).reference ? -1 : 0);
                }
            }
            world.things.add(t);
            return world.things.size() - 1;
        }

        int thing(int type) {
            if (!is(type, types.size())) return -1;
            return world.things.size() == 60 ? -3 : make(type, 0);
        }

        int array(int n) {
            if (!is(n, 17)) return -2;
            return world.things.size() == 60 ? -3 : make(-1, n);
        }

        boolean told(int v) {
            return v == -1 || is(v, world.things.size());
        }

        int put(int thing, int k, int v) {
            if (!is(thing, world.things.size())) return -1;
            Thing t = world.things.get(thing);
            if (t.items != null) {
                if (!is(k, t.items.length)) return -1;
                t.items[k] = v;
                return 1;
            }
            if (!t.fields.containsKey(k) || fields.get(k).reference && !told(v)) return -1;
            t.fields.put(k, v);
            return 1;
        }

        int set(int s, int v) {
            if (!is(s, shareds.size()) || shareds.get(s) && !told(v)) return -1;
            world.statics.set(s, v);
            return 1;
        }

        int get(int thing, int k) {
            if (!is(thing, world.things.size())) return 0;
            Thing t = world.things.get(thing);
            if (t.items != null) return is(k, t.items.length) ? t.items[k] : 0;
            return t.fields.getOrDefault(k, 0);
        }

        int stat(int s) {
            return is(s, shareds.size()) ? world.statics.get(s) : 0;
        }

        int kind(int thing) {
            if (!is(thing, world.things.size())) return -1;
            Thing t = world.things.get(thing);
            return t.items != null ? -10 - t.items.length : t.type;
        }

        int arg(int which, boolean r, int k, int v) {
            if (!is(which, 2) || !is(k, 3)) return -2;
            if (r && !told(v)) return -1;
            int[] row = r ? rargs[which] : nargs[which];
            int was = row[k];
            row[k] = v;
            return was;
        }

        // -- the analysis: all facts of the next round from those of the one before

        int analyse() {
            known = new ArrayList<>();
            for (int i = 0; i < methods.size(); i++) known.add(new Known());
            for (;;) {
                StringBuilder was = new StringBuilder(), is = new StringBuilder();
                for (Known k : known) was.append(k.text());
                List<Known> next = new ArrayList<>();
                for (int m = 0; m < methods.size(); m++) next.add(round(m));
                for (Known k : next) is.append(k.text());
                known = next;
                if (was.toString().equals(is.toString())) break;
            }
            analysed = true;
            int pure = 0;
            for (int m = 0; m < methods.size(); m++) pure += effects(m, 5);
            return pure;
        }

        Known round(int m) {
            Method method = methods.get(m);
            Known old = known.get(m), k = new Known();
            boolean[][] start = new boolean[8][6];
            for (int r = 0; r < 8; r++) {
                start[r][0] = true;
                if (r < method.q) start[r][2 + r] = true;
            }
            come(k, method, 0, start);
            for (int l = 0; l < method.lines.size(); l++) {
                if (old.reached[l]) flow(k, method, l, old.may[l]);
            }
            return k;
        }

        void come(Known k, Method m, int line, boolean[][] state) {
            if (line >= m.lines.size()) {
                k.ends = true;
                if (m.result == 2) k.result[0] = true;
                return;
            }
            k.reached[line] = true;
            for (int r = 0; r < 8; r++) {
                for (int i = 0; i < 6; i++) k.may[line][r][i] |= state[r][i];
            }
        }

        boolean[][] copy(boolean[][] s) {
            boolean[][] t = new boolean[8][];
            for (int r = 0; r < 8; r++) t[r] = s[r].clone();
            return t;
        }

        boolean[] only(int... which) {
            boolean[] b = new boolean[6];
            for (int w : which) b[w] = true;
            return b;
        }

        boolean any(boolean[] b) {
            for (boolean x : b) if (x) return true;
            return false;
        }

        boolean[] notNull(boolean[] b) {
            boolean[] c = b.clone();
            c[0] = false;
            return c;
        }

        void fault(Known k, Method m, int line, int f, boolean[][] state) {
            int to = catchOf(m, line, f);
            if (to < 0) k.faults[f] = true;
            else come(k, m, to, state);
        }

        void touch(int[] row, boolean[] r, int places) {
            for (int w = 0; w < 4; w++) {
                if (r[2 + w]) row[w] |= places;
            }
        }

        void flow(Known k, Method m, int l, boolean[][] s) {
            int[] x = m.lines.get(l);
            int op = x[0], a = x[1], b = x[2], c = x[3];
            boolean[][] n = copy(s);
            if (op == 4 || op == 5) fault(k, m, l, 1, s);
            if (op == 9) fault(k, m, l, 2, s);
            if (op == 6) n[a] = only(0);
            if (op == 7) n[a] = s[b].clone();
            if (op == 8 || op == 9) n[a] = only(1);
            if (op >= 10 && op <= 15 || op == 20) {
                int h = op == 11 || op == 13 || op == 15 ? a : b;
                if (s[h][0]) fault(k, m, l, 3, s);
                if (any(notNull(s[h]))) {
                    fault(k, m, l, 5, s);
                    if (op == 14 || op == 15) fault(k, m, l, 4, s);
                }
                if (op == 10 || op == 12) touch(k.reads, s[h], 1 << c);
                if (op == 11 || op == 13) touch(k.writes, s[h], 1 << c);
                if (op == 14) touch(k.reads, s[h], 1 << 24);
                if (op == 15) touch(k.writes, s[h], 1 << 24);
                n[h] = notNull(s[h]);
                if (!any(n[h])) return;
            }
            if (op == 16 || op == 18) k.reads[3] |= 1 << 16 + b;
            if (op == 17 || op == 19) k.writes[3] |= 1 << 16 + a;
            if (op == 12 || op == 18) n[a] = only(0, 5);
            if (op == 22) k.prints = true;
            if (op == 21) {
                call(k, m, l, s, n);
                return;
            }
            if (op == 23 || op == 24 || op == 26 || op == 28) come(k, m, c, s);
            if (op == 25) {
                n[a] = only(0);
                if (s[a][0]) come(k, m, c, n);
                n[a] = notNull(s[a]);
                if (!any(n[a])) return;
            }
            if (op == 27) {
                n[a] = notNull(s[a]);
                if (any(n[a])) come(k, m, c, n);
                n = s;
            }
            if (op == 29 && any(notNull(s[a]))) fault(k, m, l, 5, s);
            if (op == 30) fault(k, m, l, 6 + a, s);
            if (op == 31) {
                k.ends = true;
                if (m.result == 2) for (int i = 0; i < 6; i++) k.result[i] |= s[a][i];
            }
            if (op != 28 && op != 30 && op != 31) come(k, m, l + 1, n);
        }

        void call(Known k, Method m, int l, boolean[][] s, boolean[][] n) {
            int[] x = m.lines.get(l);
            int c = x[3];
            Method called = methods.get(x[2]);
            Known of = known.get(x[2]);
            k.reads[3] |= of.reads[3];
            k.writes[3] |= of.writes[3];
            for (int i = 0; i < called.q; i++) {
                touch(k.reads, s[c + i], of.reads[i]);
                touch(k.writes, s[c + i], of.writes[i]);
            }
            k.prints |= of.prints;
            for (int f = 1; f <= 9; f++) {
                if (of.faults[f]) fault(k, m, l, f, s);
            }
            if (!of.ends) return;
            if (called.result == 2) {
                boolean[] r = new boolean[6];
                for (int i : new int[] {0, 1, 5}) r[i] = of.result[i];
                for (int i = 0; i < called.q; i++) {
                    for (int j = 0; j < 6; j++) r[j] |= of.result[2 + i] && s[c + i][j];
                }
                n[c] = r;
            }
            come(k, m, l + 1, n);
        }

        int bits(boolean[] b) {
            int n = 0;
            for (int i = 0; i < b.length; i++) if (b[i]) n |= 1 << i;
            return n;
        }

        int effects(int m, int what) {
            if (!analysed || !is(m, methods.size())) return -1;
            Known k = known.get(m);
            int r = k.reads[0] | k.reads[1] | k.reads[2] | k.reads[3];
            int w = k.writes[0] | k.writes[1] | k.writes[2] | k.writes[3];
            boolean pure = w == 0 && !k.prints;
            switch (what) {
                case 0: return r;
                case 1: return w;
                case 2: return k.prints ? 1 : 0;
                case 3: return bits(k.faults);
                case 4: return bits(k.result);
                case 5: return pure ? 1 : 0;
                case 6: return pure && r == 0 && methods.get(m).result != 2 ? 1 : 0;
                case 7: return k.ends ? 1 : 0;
                default: return -2;
            }
        }

        int by(int m, int way, boolean w) {
            if (!analysed || !is(m, methods.size())) return -1;
            if (!is(way, 4)) return -2;
            return w ? known.get(m).writes[way] : known.get(m).reads[way];
        }

        int may(int m, int line, int r) {
            if (!analysed || !is(m, methods.size()) || !is(line, methods.get(m).lines.size()) || !is(r, 8)) return -1;
            return bits(known.get(m).may[line][r]);
        }

        int free(int a, int b) {
            if (!analysed || !is(a, methods.size()) || !is(b, methods.size())) return -1;
            if ((effects(a, 1) & effects(b, 0)) != 0 || (effects(a, 1) & effects(b, 1)) != 0) return 0;
            if ((effects(b, 1) & effects(a, 0)) != 0) return 0;
            return effects(a, 2) + effects(b, 2) == 2 ? 0 : 1;
        }

        // -- the machine

        int runs(int m, int which) {
            reads = writes = prints = lines = result = faultLines = 0;
            there = world.things.size();
            int fault = 0;
            try {
                int r = call(m, nargs[which], rargs[which], 1);
                result = methods.get(m).result == 0 ? 0 : r;
            } catch (Fault f) {
                fault = f.number;
            }
            made = world.things.size() - there;
            return fault;
        }

        int call(int m, int[] nums, int[] refs, int depth) {
            if (depth > 12) throw new Full();
            Method method = methods.get(m);
            int[] n = new int[8], r = new int[8];
            Arrays.fill(r, -1);
            System.arraycopy(nums, 0, n, 0, method.p);
            System.arraycopy(refs, 0, r, 0, method.q);
            int line = 0;
            while (line < method.lines.size()) {
                if (lines == 500) throw new Full();
                lines++;
                int[] x = method.lines.get(line);
                try {
                    if (x[0] == 31) return method.result == 2 ? r[x[1]] : method.result == 1 ? n[x[1]] : 0;
                    line = step(x, line, n, r, depth);
                } catch (Fault f) {
                    if (++faultLines > 40) throw new Full();
                    int to = catchOf(method, line, f.number);
                    if (to < 0) throw f;
                    line = to;
                }
            }
            return method.result == 2 ? -1 : 0;
        }

        Thing at(int ref) {
            if (ref < 0) throw new Fault(3);
            return world.things.get(ref);
        }

        Thing object(int ref, int f) {
            if (!at(ref).fields.containsKey(f)) throw new Fault(5);
            return at(ref);
        }

        Thing items(int ref) {
            if (at(ref).items == null) throw new Fault(5);
            return at(ref);
        }

        int index(Thing t, int i) {
            if (!is(i, t.items.length)) throw new Fault(4);
            return i;
        }

        void read(int ref, int place) {
            if (ref < there) reads |= 1 << place;
        }

        void wrote(int ref, int place) {
            if (ref < there) writes |= 1 << place;
        }

        boolean such(int ref, int type) {
            return ref >= 0 && world.things.get(ref).items == null && below(world.things.get(ref).type, type);
        }

        int step(int[] x, int line, int[] n, int[] r, int depth) {
            int op = x[0], a = x[1], b = x[2], c = x[3];
            boolean jump = false;
            switch (op) {
                case 0: n[a] = c; break;
                case 1: n[a] = n[b] + n[c]; break;
                case 2: n[a] = n[b] - n[c]; break;
                case 3: n[a] = n[b] * n[c]; break;
                case 4: case 5:
                    if (n[c] == 0) throw new Fault(1);
                    n[a] = op == 4 ? n[b] / n[c] : n[b] % n[c];
                    break;
                case 6: r[a] = -1; break;
                case 7: r[a] = r[b]; break;
                case 8:
                    if (world.things.size() == 60) throw new Full();
                    r[a] = make(b, 0);
                    break;
                case 9:
                    if (n[b] < 0) throw new Fault(2);
                    if (n[b] > 16 || world.things.size() == 60) throw new Full();
                    r[a] = make(-1, n[b]);
                    break;
                case 10: { int h = r[b]; n[a] = object(h, c).fields.get(c); read(h, c); break; }
                case 11: { int h = r[a]; object(h, c).fields.put(c, n[b]); wrote(h, c); break; }
                case 12: { int h = r[b]; r[a] = object(h, c).fields.get(c); read(h, c); break; }
                case 13: { int h = r[a]; object(h, c).fields.put(c, r[b]); wrote(h, c); break; }
                case 14: { int h = r[b]; Thing t = items(h); n[a] = t.items[index(t, n[c])]; read(h, 24); break; }
                case 15: { int h = r[a]; Thing t = items(h); t.items[index(t, n[b])] = n[c]; wrote(h, 24); break; }
                case 16: n[a] = world.statics.get(b); read(-1, 16 + b); break;
                case 17: world.statics.set(a, n[b]); wrote(-1, 16 + a); break;
                case 18: r[a] = world.statics.get(b); read(-1, 16 + b); break;
                case 19: world.statics.set(a, r[b]); wrote(-1, 16 + a); break;
                case 20: n[a] = items(r[b]).items.length; break;
                case 21: {
                    Method m = methods.get(b);
                    int v = call(b, Arrays.copyOfRange(n, a, a + m.p), Arrays.copyOfRange(r, c, c + m.q), depth + 1);
                    if (m.result == 1) n[a] = v;
                    if (m.result == 2) r[c] = v;
                    break;
                }
                case 22: world.printed.add(n[a]); prints++; break;
                case 23: jump = n[a] < n[b]; break;
                case 24: jump = n[a] == n[b]; break;
                case 25: jump = r[a] == -1; break;
                case 26: jump = r[a] == r[b]; break;
                case 27: jump = such(r[a], b); break;
                case 28: jump = true; break;
                case 29: if (r[a] != -1 && !such(r[a], b)) throw new Fault(5); break;
                default: throw new Fault(6 + a);
            }
            return jump ? c : line + 1;
        }

        int run(int m) {
            if (!is(m, methods.size())) return -1;
            Earth was = world.copy();
            try {
                int fault = runs(m, 0);
                did = new int[] {reads, writes, prints, lines, made, result};
                return fault;
            } catch (Full f) {
                world = was;
                return -4;
            }
        }

        int did(int what) {
            return is(what, 6) ? did[what] : -2;
        }

        int both(int a, int b) {
            if (!is(a, methods.size()) || !is(b, methods.size())) return -1;
            Earth was = world;
            try {
                String one = end(was, a, b, false), two = end(was, a, b, true);
                return one.equals(two) ? 1 : 0;
            } catch (Full f) {
                return -4;
            } finally {
                world = was;
            }
        }

        String end(Earth from, int a, int b, boolean turned) {
            world = from.copy();
            int[] ends = new int[4];
            for (int i = 0; i < 2; i++) {
                int which = turned ? 1 - i : i;
                ends[which * 2] = runs(which == 0 ? a : b, which);
                ends[which * 2 + 1] = result;
            }
            StringBuilder s = new StringBuilder();
            s.append(ends[0]).append(' ').append(ends[2]).append(" printed ").append(world.printed.size());
            s.append(world.printed.subList(0, Math.min(200, world.printed.size())));
            Map<Integer, Integer> names = new HashMap<>();
            int old = from.things.size();
            for (int i = 0; i < shareds.size(); i++) {
                s.append(" static ");
                tell(s, shareds.get(i), world.statics.get(i), old, names);
            }
            for (int t = 0; t < old; t++) contents(s, world.things.get(t), old, names);
            for (int i = 0; i < 2; i++) {
                s.append(" result ");
                tell(s, ends[i * 2] == 0 && methods.get(i == 0 ? a : b).result == 2, ends[i * 2 + 1], old, names);
            }
            return s.toString();
        }

        void tell(StringBuilder s, boolean reference, int v, int old, Map<Integer, Integer> names) {
            if (!reference || v < old) {
                s.append(v).append(',');
            } else if (names.containsKey(v)) {
                s.append("made ").append(names.get(v)).append(',');
            } else {
                names.put(v, names.size());
                s.append("made ").append(names.get(v));
                contents(s, world.things.get(v), old, names);
            }
        }

        void contents(StringBuilder s, Thing t, int old, Map<Integer, Integer> names) {
            s.append('{').append(t.type).append(Arrays.toString(t.items));
            for (Map.Entry<Integer, Integer> f : t.fields.entrySet()) {
                tell(s, fields.get(f.getKey()).reference, f.getValue(), old, names);
            }
            s.append('}');
        }

        int printed(int k) {
            return is(k, Math.min(200, world.printed.size())) ? world.printed.get(k) : 0;
        }

        int count(int what) {
            switch (what) {
                case 0: return types.size();
                case 1: return fields.size();
                case 2: return shareds.size();
                case 3: return methods.size();
                case 4: return world.things.size();
                case 5: return world.printed.size();
                case 6: return analysed ? 1 : 0;
                default: return -2;
            }
        }
    }
}
