import java.util.ArrayList;
import java.util.List;
import java.util.function.Supplier;
import java.util.function.ToIntFunction;

/**
 * Each sentence of the document that names a boundary case (too small, too large, empty, full, a wrap-around, a refused
 * call), promise by promise: the last that is taken, the first that is not, and that a refused call changes nothing.
 * A check's text begins with the promise's number.
 */
public final class BoundariesTest {
    private static final int UNKNOWN = -1, OUTSIDE = -2, ROOM = -3, FULL = -4;
    private static final int MIN = Integer.MIN_VALUE, MAX = Integer.MAX_VALUE;
    private static final int ITEMS = 1 << 24;
    private static int wrong = 0;
    private static int asked = 0;

    private static void due(String what, int got, int want) {
        asked++;
        if (got != want) {
            wrong++;
            System.out.println(what + ": answered " + got + ", due is " + want);
        }
    }

    public static void main(String[] args) {
        promise1();
        promise2();
        promise3();
        promise4();
        promise5();
        promise6Operands();
        promise6Told();
        promise6Calls();
        promise6Results();
        promise6Lines();
        promise7();
        promise8();
        promise9();
        promise10();
        promise11();
        promise12();
        promise13();
        promise14();
        promise15();
        promise16();
        promise16Anew();
        promise17();
        promise17Ways();
        promise17Faults();
        promise17Ends();
        promise17Through();
        promise18();
        promise18Calls();
        promise19();
        promise19Branches();
        promise19Lines();
        promise19Results();
        promise19Faults();
        promise20();
        promise21Refused();
        promise21Numbers();
        promise21Locals();
        promise21Last();
        promise21BehindTheLast();
        promise21Faults();
        promise21NothingElse();
        promise21Catches();
        promise21Things();
        promise21Depth();
        promise21Lines();
        promise21FaultLines();
        promise21Full();
        promise22();
        promise22Places();
        promise22Results();
        promise23();
        promise24Refused();
        promise24Full();
        promise24Ends();
        promise24Printed();
        promise24Things();
        promise24Made();
        promise24MadeDeep();
        promise25();
        promise26();
        System.out.println(asked + " asked, " + (wrong == 0 ? "all answers are as due" : wrong + " answers are not as due"));
        if (wrong != 0) {
            System.exit(1);
        }
    }

    // ---------------------------------------------------------------- what the checks are made with

    /** An object that keeps to the document's 512 calls: what later ones answer is free, so no check may rest on them. */
    private static final class Counted {
        private final PurityEffects x = new PurityEffects();
        private int calls = 0;

        private PurityEffects once() {
            calls++;
            if (calls == 513) {
                due("a check that makes more than 512 calls", calls, 512);
            }
            return x;
        }

        int type(int above) { return once().type(above); }
        int field(int type, boolean reference) { return once().field(type, reference); }
        int shared(boolean reference) { return once().shared(reference); }
        int method(int p, int q, int result) { return once().method(p, q, result); }
        int line(int m, int op, int a, int b, int c) { return once().line(m, op, a, b, c); }
        int caught(int m, int from, int to, int fault, int line) { return once().caught(m, from, to, fault, line); }
        int thing(int type) { return once().thing(type); }
        int array(int n) { return once().array(n); }
        int put(int thing, int k, int v) { return once().put(thing, k, v); }
        int set(int shared, int v) { return once().set(shared, v); }
        int get(int thing, int k) { return once().get(thing, k); }
        int stat(int shared) { return once().stat(shared); }
        int kind(int thing) { return once().kind(thing); }
        int arg(int which, boolean reference, int k, int v) { return once().arg(which, reference, k, v); }
        int analyse() { return once().analyse(); }
        int effects(int m, int what) { return once().effects(m, what); }
        int by(int m, int way, boolean writes) { return once().by(m, way, writes); }
        int may(int m, int line, int r) { return once().may(m, line, r); }
        int free(int a, int b) { return once().free(a, b); }
        int run(int m) { return once().run(m); }
        int did(int what) { return once().did(what); }
        int foreseen() { return once().foreseen(); }
        int both(int a, int b) { return once().both(a, b); }
        int printed(int k) { return once().printed(k); }
        int count(int what) { return once().count(what); }

        int told(int p, int q, int result, int[]... lines) {
            int m = method(p, q, result);
            for (int i = 0; i < lines.length; i++) {
                due("6 line " + i + " of method " + m, line(m, lines[i][0], lines[i][1], lines[i][2], lines[i][3]), i);
            }
            return m;
        }

        void numbers(int which, int... values) {
            for (int k = 0; k < values.length; k++) {
                arg(which, false, k, values[k]);
            }
        }

        void things(int which, int... values) {
            for (int k = 0; k < values.length; k++) {
                arg(which, true, k, values[k]);
            }
        }
    }

    private static int[] l(int op, int a, int b, int c) {
        return new int[] {op, a, b, c};
    }

    /** All that can be seen of an object; of things and methods the first and last ones. Ends with what comes next. */
    private static List<Integer> seen(Counted x) {
        List<Integer> all = new ArrayList<>();
        for (int what = 0; what < 7; what++) {
            all.add(x.count(what));
        }
        int things = x.count(4);
        for (int t : ends(things, 2)) {
            all.add(x.kind(t));
            for (int k = 0; k < 16; k++) {
                all.add(x.get(t, k));
            }
        }
        for (int s = 0; s < 8; s++) {
            all.add(x.stat(s));
        }
        for (int k : new int[] {0, 1, 2, 199, 200}) {
            all.add(x.printed(k));
        }
        for (int what = 0; what < 6; what++) {
            all.add(x.did(what));
        }
        all.add(x.foreseen());
        int[] methods = ends(x.count(3), 1);
        for (int m : methods) {
            seenOf(x, m, all);
        }
        seenArgs(x, all);
        all.add(x.type(-1));
        all.add(x.shared(true));
        all.add(x.method(0, 0, 0));
        for (int m : methods) {
            all.add(x.line(m, 0, 0, 0, 0));
            all.add(x.caught(m, 0, 1, 0, 0));
        }
        all.add(x.array(1));
        all.add(x.field(0, true));
        all.add(x.analyse());
        for (int m : methods) {
            all.add(x.effects(m, 0));
            all.add(x.effects(m, 3));
            all.add(x.run(m));
            all.add(x.did(3));
        }
        return all;
    }

    private static void seenOf(Counted x, int m, List<Integer> all) {
        for (int what = 0; what < 8; what++) {
            all.add(x.effects(m, what));
        }
        for (int way = 0; way < 4; way++) {
            all.add(x.by(m, way, true));
            all.add(x.by(m, way, false));
        }
        for (int line = 0; line < 25; line++) {
            all.add(x.may(m, line, 0));
        }
        all.add(x.free(m, 0));
    }

    private static void seenArgs(Counted x, List<Integer> all) {
        for (int i = 0; i < 12; i++) {
            boolean reference = i % 2 == 0;
            int was = x.arg(i / 6, reference, i / 2 % 3, reference ? -1 : 0);
            x.arg(i / 6, reference, i / 2 % 3, was);
            all.add(was);
        }
    }

    private static int[] ends(int n, int each) {
        List<Integer> out = new ArrayList<>();
        for (int i = 0; i < n; i++) {
            if (i < each || i >= n - each) {
                out.add(i);
            }
        }
        return out.stream().mapToInt(i -> i).toArray();
    }

    /** The call is refused, and the object is like its twin that was never called so. */
    private static void refused(String what, Supplier<Counted> maker, ToIntFunction<Counted> call, int want) {
        Counted x = maker.get();
        due(what, call.applyAsInt(x), want);
        due(what + " (what is refused changes nothing)", seen(x).equals(seen(maker.get())) ? 1 : 0, 1);
    }

    /** Some of everything, ANALYSED, with a RUN and what it printed, with ARGS. */
    private static Counted some() {
        Counted x = new Counted();
        x.type(-1);
        x.type(0);
        x.type(-1);
        x.field(0, false);
        x.field(1, true);
        x.field(2, false);
        x.shared(false);
        x.shared(true);
        x.thing(1);
        x.array(3);
        x.put(0, 0, 7);
        x.put(0, 1, 1);
        x.put(1, 2, 9);
        x.set(0, 5);
        x.set(1, 0);
        x.told(1, 1, 1, l(10, 1, 0, 0), l(22, 1, 0, 0), l(11, 0, 0, 0), l(31, 1, 0, 0));
        x.caught(0, 0, 1, 3, 24);
        x.told(0, 1, 2, l(12, 1, 0, 1), l(31, 1, 0, 0));
        x.numbers(0, 11, 12, 13);
        x.numbers(1, 21, 22, 23);
        x.things(0, 0, 1, -1);
        x.things(1, 1, -1, 0);
        x.analyse();
        x.run(0);
        return x;
    }

    /** As some(), but all of the program is there that may be: 8, 16, 8, 10; METHOD 9 has 24 LINES, 4 CATCHES. */
    private static Counted fullProgram() {
        Counted x = new Counted();
        for (int t = 0; t < 8; t++) {
            x.type(t - 1);
        }
        for (int f = 0; f < 16; f++) {
            x.field(f % 8, f % 2 == 1);
        }
        for (int s = 0; s < 8; s++) {
            x.shared(s % 2 == 1);
        }
        for (int m = 0; m < 10; m++) {
            x.method(m % 4, 3 - m % 4, m % 3);
        }
        for (int i = 0; i < 24; i++) {
            x.line(9, 22, i % 8, 0, 0);
        }
        for (int k = 0; k < 4; k++) {
            x.caught(9, k, k + 20, k, k);
        }
        x.thing(7);
        x.analyse();
        return x;
    }

    /** 60 THINGS: 30 objects of CLASS 0, 30 ARRAYS. */
    private static Counted fullWorld() {
        Counted x = new Counted();
        x.type(-1);
        x.field(0, true);
        x.told(1, 0, 2, l(9, 0, 0, 0), l(31, 0, 0, 0));
        x.told(0, 0, 2, l(8, 0, 0, 0), l(31, 0, 0, 0));
        for (int t = 0; t < 60; t++) {
            due("8, 9 one of 60", t % 2 == 0 ? x.thing(0) : x.array(t % 17), t);
        }
        x.analyse();
        return x;
    }

    // ---------------------------------------------------------------- promises 1 to 7: the program

    private static void promise1() {
        Counted x = new Counted();
        for (int what = 0; what < 7; what++) {
            due("1 none of what count(" + what + ") counts", x.count(what), 0);
        }
        due("1 no CLASSES", x.thing(0), UNKNOWN);
        due("1 no CLASSES to be below", x.type(0), UNKNOWN);
        due("1 no METHODS", x.run(0), UNKNOWN);
        due("1 no METHODS", x.line(0, 0, 0, 0, 0), UNKNOWN);
        due("1 no THINGS", x.kind(0), UNKNOWN);
        due("1 no STATICS", x.set(0, 0), UNKNOWN);
        int numbers = x.told(3, 3, 0, l(22, 0, 0, 0), l(22, 1, 0, 0), l(22, 2, 0, 0), l(25, 0, 0, 5), l(30, 0, 0, 0), l(25, 1, 0, 7),
            l(30, 1, 0, 0), l(25, 2, 0, 9), l(30, 2, 0, 0));
        due("1 all first ARGS are null", x.run(numbers), 0);
        for (int k = 0; k < 3; k++) {
            due("1 all first ARGS are 0", x.printed(k), 0);
            due("1 all ARGS are 0", x.arg(0, false, k, 9), 0);
            due("1 all ARGS are 0", x.arg(1, false, k, 9), 0);
            due("1 all ARGS are null", x.arg(0, true, k, -1), -1);
            due("1 all ARGS are null", x.arg(1, true, k, -1), -1);
        }
    }

    private static void promise2() {
        for (int above : new int[] {0, 1, -2, MIN, MAX}) {
            due("2 below " + above + " while there is none", new Counted().type(above), UNKNOWN);
        }
        for (int above : new int[] {3, -2, 8, MIN, MAX}) {
            refused("2 below " + above + ", which there is not", BoundariesTest::some, x -> x.type(above), UNKNOWN);
        }
        Counted x = new Counted();
        for (int t = 0; t < 8; t++) {
            due("2 not below itself", x.type(t), UNKNOWN);
            due("2 from 0 on, 8 at most", x.type(t - 1), t);
        }
        due("2 a ninth", x.type(-1), ROOM);
        due("2 what was refused is not counted", x.count(0), 8);
        refused("2 a ninth below none", BoundariesTest::fullProgram, y -> y.type(-1), ROOM);
        refused("2 a ninth below the eighth", BoundariesTest::fullProgram, y -> y.type(7), ROOM);
        refused("2 UNKNOWN counts ahead of ROOM", BoundariesTest::fullProgram, y -> y.type(8), UNKNOWN);
        refused("2 UNKNOWN counts ahead of ROOM", BoundariesTest::fullProgram, y -> y.type(-2), UNKNOWN);
        due("3 a FIELD of the topmost", x.field(0, false), 0);
        due("8 of the eighth", x.thing(7), 0);
        due("2 the eighth is below all others", x.put(0, 0, 3), 1);
        Counted apart = new Counted();
        apart.type(-1);
        apart.type(-1);
        apart.field(0, false);
        apart.thing(1);
        due("2 -1: below none", apart.put(0, 0, 3), UNKNOWN);
        Counted later = new Counted();
        for (int t = 0; t < 8; t++) {
            later.type(t - 1);
            later.field(t, false);
        }
        later.thing(7);
        for (int f = 0; f < 8; f++) {
            due("2 a CLASS has FIELDS that were told ahead of it", later.put(0, f, f + 1), 1);
            due("12 a CLASS has FIELDS that were told ahead of it", later.get(0, f), f + 1);
        }
    }

    private static void promise3() {
        due("3 no CLASS", new Counted().field(0, false), UNKNOWN);
        due("3 -1 is no CLASS", new Counted().field(-1, false), UNKNOWN);
        for (int t : new int[] {-1, 3, 8, MIN, MAX}) {
            refused("3 no CLASS " + t, BoundariesTest::some, x -> x.field(t, true), UNKNOWN);
            refused("3 no CLASS " + t, BoundariesTest::some, x -> x.field(t, false), UNKNOWN);
        }
        refused("3 there are objects of it", BoundariesTest::some, x -> x.field(1, false), OUTSIDE);
        refused("3 there are objects of one below it", BoundariesTest::some, x -> x.field(0, true), OUTSIDE);
        due("3 objects of others do not matter", some().field(2, true), 3);
        refused("3 a seventeenth", BoundariesTest::fullProgram, x -> x.field(7, false), ROOM);
        refused("3 ROOM counts ahead of OUTSIDE", BoundariesTest::fullProgram, x -> x.field(0, true), ROOM);
        refused("3 UNKNOWN counts ahead of ROOM", BoundariesTest::fullProgram, x -> x.field(8, true), UNKNOWN);
        Counted x = new Counted();
        for (int t = 0; t < 8; t++) {
            x.type(t - 1);
        }
        x.thing(3);
        for (int t = 0; t < 4; t++) {
            due("3 objects of it or far below it", x.field(t, true), OUTSIDE);
        }
        for (int f = 0; f < 16; f++) {
            due("3 from 0 on, 16 in all; objects above it do not matter", x.field(4 + f % 4, f % 2 == 0), f);
        }
        due("3 a seventeenth of another CLASS", x.field(4, true), ROOM);
        due("3 16 in all", x.count(1), 16);
        Counted y = new Counted();
        y.type(-1);
        y.array(0);
        int made = y.told(0, 0, 0, l(8, 0, 0, 0));
        int endless = y.told(0, 0, 0, l(8, 0, 0, 0), l(28, 0, 0, 1));
        due("3 an ARRAY is no such object", y.field(0, true), 0);
        due("24 makes objects", y.both(made, made), 1);
        due("3 those that both() made are not there", y.field(0, true), 1);
        due("21 makes an object", y.run(endless), FULL);
        due("3 those of a RUN that was FULL are not there", y.field(0, true), 2);
        due("21 makes an object", y.run(made), 0);
        due("3 those of a RUN are there", y.field(0, true), OUTSIDE);
        due("12 null at first", y.get(1, 2), -1);
        due("12 refused ones are none", y.get(1, 3), 0);
    }

    private static void promise4() {
        Counted x = new Counted();
        for (int s = 0; s < 8; s++) {
            due("4 the next one is not there yet", x.set(s, 0), UNKNOWN);
            due("4 from 0 on, 8 at most", x.shared(s >= 4), s);
            due("4 0, null at first", x.stat(s), s >= 4 ? -1 : 0);
        }
        due("4 a ninth", x.shared(true), ROOM);
        due("4 a ninth", x.shared(false), ROOM);
        due("4 refused ones are not counted", x.count(2), 8);
        refused("4 a ninth", BoundariesTest::fullProgram, y -> y.shared(true), ROOM);
        refused("4 a ninth", BoundariesTest::fullProgram, y -> y.shared(false), ROOM);
    }

    private static void promise5() {
        for (int bad : new int[] {-1, 4, MIN, MAX}) {
            refused("5 p " + bad, BoundariesTest::some, x -> x.method(bad, 0, 0), OUTSIDE);
            refused("5 q " + bad, BoundariesTest::some, x -> x.method(0, bad, 0), OUTSIDE);
            refused("5 p " + bad + " ahead of ROOM", BoundariesTest::fullProgram, x -> x.method(bad, 0, 0), OUTSIDE);
            refused("5 q " + bad + " ahead of ROOM", BoundariesTest::fullProgram, x -> x.method(0, bad, 0), OUTSIDE);
        }
        for (int bad : new int[] {-1, 3, MIN, MAX}) {
            refused("5 RESULT " + bad, BoundariesTest::some, x -> x.method(0, 0, bad), OUTSIDE);
            refused("5 RESULT " + bad + " ahead of ROOM", BoundariesTest::fullProgram, x -> x.method(0, 0, bad), OUTSIDE);
        }
        for (int p = 0; p <= 3; p++) {
            Counted x = new Counted();
            for (int q = 0; q <= 3; q++) {
                due("5 p, q 0 to 3", x.method(p, q, p % 3), q);
            }
            due("5 RESULT 0", x.method(p, p, 0), 4);
            due("5 RESULT 1", x.method(p, p, 1), 5);
            due("5 RESULT 2", x.method(p, p, 2), 6);
            for (int m = 7; m < 10; m++) {
                due("5 10 at most", x.method(p, 0, 0), m);
            }
            due("5 an eleventh", x.method(p, 0, 0), ROOM);
            due("5 refused ones are not counted", x.count(3), 10);
        }
        refused("5 an eleventh", BoundariesTest::fullProgram, x -> x.method(0, 0, 0), ROOM);
        refused("5 an eleventh", BoundariesTest::fullProgram, x -> x.method(3, 3, 2), ROOM);
    }

    /** What each OP wants of a, b, c: L a LOCAL, C a CLASS, n N a FIELD of numbers, references, s S a STATIC likewise,
     *  M a METHOD, J a LINE, T what is thrown; - nothing. */
    private static final String[] WANTS = {
        "L--", "LLL", "LLL", "LLL", "LLL", "LLL", "L--", "LL-", "LC-", "LL-",
        "LLn", "LLn", "LLN", "LLN", "LLL", "LLL", "Ls-", "sL-", "LS-", "SL-",
        "LL-", "LML", "L--", "LLJ", "LLJ", "L-J", "LLJ", "LCJ", "--J", "LC-", "T--", "L--"
    };

    /** In some(): 3 CLASSES, FIELDS n N n, STATICS s S, METHODS 0 (one number, one reference) and 1. */
    private static int[] first(char want) {
        switch (want) {
            case 'L': return new int[] {0, 7};
            case 'C': return new int[] {0, 2};
            case 'n': return new int[] {0, 2};
            case 'N': return new int[] {1};
            case 's': return new int[] {0};
            case 'S': return new int[] {1};
            case 'M': return new int[] {0, 1};
            case 'J': return new int[] {0, 24};
            case 'T': return new int[] {0, 3};
            default: return new int[] {MIN, -1, 8, MAX};
        }
    }

    private static int[] beyond(char want) {
        switch (want) {
            case 'L': return new int[] {-1, 8, MIN, MAX};
            case 'C': return new int[] {-1, 3, 8, MIN, MAX};
            case 'n': return new int[] {-1, 1, 3, 16, MIN, MAX};
            case 'N': return new int[] {-1, 0, 2, 3, 16, MIN, MAX};
            case 's': return new int[] {-1, 1, 2, 8, MIN, MAX};
            case 'S': return new int[] {-1, 0, 2, 8, MIN, MAX};
            case 'M': return new int[] {-1, 2, 10, MIN, MAX};
            case 'J': return new int[] {-1, 25, MIN, MAX};
            case 'T': return new int[] {-1, 4, MIN, MAX};
            default: return new int[0];
        }
    }

    private static int[] wanted(int op, int at, int value) {
        int[] abc = new int[3];
        for (int k = 0; k < 3; k++) {
            abc[k] = first(WANTS[op].charAt(k))[0];
        }
        abc[at] = value;
        return abc;
    }

    private static void promise6Operands() {
        for (int op = 0; op < 32; op++) {
            int o = op;
            for (int at = 0; at < 3; at++) {
                char want = WANTS[op].charAt(at);
                // the params of METHOD 0 begin below 8 at 7
                for (int value : first(want)) {
                    int[] abc = wanted(op, at, value);
                    due("6 OP " + op + " takes " + value + " as operand " + at, some().line(0, op, abc[0], abc[1], abc[2]), 4);
                }
                for (int value : beyond(want)) {
                    int[] abc = wanted(op, at, value);
                    refused("6 OP " + op + " does not take " + value + " as operand " + at, BoundariesTest::some,
                        x -> x.line(0, o, abc[0], abc[1], abc[2]), OUTSIDE);
                }
            }
        }
        for (int op : new int[] {-1, 32, MIN, MAX}) {
            refused("6 OP " + op, BoundariesTest::some, x -> x.line(0, op, 0, 0, 0), OUTSIDE);
        }
    }

    private static void promise6Told() {
        Counted x = new Counted();
        due("6 no METHOD yet", x.line(0, 28, 0, 0, 0), UNKNOWN);
        int m = x.method(0, 0, 0);
        due("6 itself is a METHOD that there is", x.line(m, 21, 0, m, 0), 0);
        due("6 a METHOD that is not there yet", x.line(m, 21, 0, 1, 0), OUTSIDE);
        x.method(0, 0, 0);
        due("6 it is there now", x.line(m, 21, 0, 1, 0), 1);
        due("6 a CLASS that is not there yet", x.line(m, 8, 0, 0, 0), OUTSIDE);
        x.type(-1);
        due("6 it is there now", x.line(m, 8, 0, 0, 0), 2);
        due("6 a FIELD that is not there yet", x.line(m, 10, 0, 0, 0), OUTSIDE);
        x.field(0, false);
        due("6 it is there now", x.line(m, 10, 0, 0, 0), 3);
        due("6 a FIELD of references that is not there yet", x.line(m, 12, 0, 0, 1), OUTSIDE);
        x.field(0, true);
        due("6 it is there now", x.line(m, 12, 0, 0, 1), 4);
        due("6 a STATIC that is not there yet", x.line(m, 16, 0, 0, 0), OUTSIDE);
        x.shared(false);
        due("6 it is there now", x.line(m, 16, 0, 0, 0), 5);
        due("6 a STATIC of references that is not there yet", x.line(m, 18, 0, 1, 0), OUTSIDE);
        x.shared(true);
        due("6 it is there now", x.line(m, 18, 0, 1, 0), 6);
        due("6 a LINE that is not told yet is one of 0 to 24", x.line(m, 28, 0, 0, 24), 7);
    }

    private static void promise6Calls() {
        for (int n = 0; n <= 3; n++) {
            Counted x = new Counted();
            int numbers = x.method(n, 0, 1);
            int things = x.method(0, n, 2);
            int m = x.method(0, 0, 0);
            int lines = 0;
            for (int k = -1; k <= 9; k++) {
                boolean fits = k >= 0 && k <= 7 && k + n <= 8;
                due("6 a METHOD with " + n + " numbers at N " + k, x.line(m, 21, k, numbers, 0), fits ? lines++ : OUTSIDE);
                due("6 a METHOD with " + n + " references at R " + k, x.line(m, 21, 0, things, k), fits ? lines++ : OUTSIDE);
                fits = k >= 0 && k <= 7;
                if (!fits) {
                    due("6 R 0 to 7 also without references", x.line(m, 21, 0, numbers, k), OUTSIDE);
                    due("6 N 0 to 7 also without numbers", x.line(m, 21, k, things, 0), OUTSIDE);
                }
            }
            due("6 R 7 without references", x.line(m, 21, 0, numbers, 7), lines++);
            due("6 N 7 without numbers", x.line(m, 21, 7, things, 0), lines);
            due("6 so far that it wraps", x.line(m, 21, MAX, numbers, 0), OUTSIDE);
            due("6 so far that it wraps", x.line(m, 21, 0, things, MAX), OUTSIDE);
        }
        Supplier<Counted> maker = () -> {
            Counted x = some();
            x.method(3, 3, 0);
            x.analyse();
            return x;
        };
        refused("6 numbers past N 7", maker, x -> x.line(0, 21, 6, 2, 0), OUTSIDE);
        refused("6 references past R 7", maker, x -> x.line(0, 21, 0, 2, 6), OUTSIDE);
        due("6 both just below 8", maker.get().line(0, 21, 5, 2, 5), 4);
    }

    private static void promise6Results() {
        for (int result = 0; result <= 2; result++) {
            int kind = result;
            Supplier<Counted> maker = () -> {
                Counted x = new Counted();
                x.type(-1);
                x.method(0, 0, kind);
                x.analyse();
                return x;
            };
            for (int a : new int[] {-1, 8, MIN, MAX}) {
                if (result == 0) {
                    due("6 31 without a RESULT wants nothing", maker.get().line(0, 31, a, a, a), 0);
                } else {
                    refused("6 31 wants its RESULT's LOCAL", maker, x -> x.line(0, 31, a, 0, 0), OUTSIDE);
                    due("6 31 wants a alone", maker.get().line(0, 31, 7, a, a), 0);
                }
            }
            due("6 31 of LOCAL 0", maker.get().line(0, 31, 0, 0, 0), 0);
            due("6 31 of LOCAL 7", maker.get().line(0, 31, 7, 0, 0), 0);
        }
    }

    private static void promise6Lines() {
        for (int m : new int[] {-1, 2, 10, MIN, MAX}) {
            refused("6 no METHOD " + m, BoundariesTest::some, x -> x.line(m, 0, 0, 0, 0), UNKNOWN);
            refused("6 UNKNOWN counts ahead of OUTSIDE", BoundariesTest::some, x -> x.line(m, 32, 8, 8, 8), UNKNOWN);
        }
        Counted x = new Counted();
        x.method(0, 0, 0);
        x.method(0, 0, 0);
        for (int i = 0; i < 24; i++) {
            due("6 from 0 on, 24 at most", x.line(0, 22, 0, 0, 0), i);
        }
        due("6 a 25th", x.line(0, 22, 0, 0, 0), ROOM);
        due("6 OUTSIDE counts ahead of ROOM", x.line(0, 22, 8, 0, 0), OUTSIDE);
        due("6 its number there: another METHOD's begin at 0", x.line(1, 22, 0, 0, 0), 0);
        due("21 all 24 are done", x.run(0), 0);
        due("22 all 24 are done, the refused one is not", x.did(3), 24);
        refused("6 a 25th", BoundariesTest::fullProgram, y -> y.line(9, 31, 0, 0, 0), ROOM);
        refused("6 OUTSIDE counts ahead of ROOM", BoundariesTest::fullProgram, y -> y.line(9, -1, 0, 0, 0), OUTSIDE);
        refused("6 OUTSIDE counts ahead of ROOM", BoundariesTest::fullProgram, y -> y.line(9, 0, -1, 0, 0), OUTSIDE);
    }

    private static void promise7() {
        for (int m : new int[] {-1, 2, 10, MIN, MAX}) {
            refused("7 no METHOD " + m, BoundariesTest::some, x -> x.caught(m, 0, 1, 0, 0), UNKNOWN);
            refused("7 UNKNOWN counts ahead of OUTSIDE", BoundariesTest::some, x -> x.caught(m, 1, 1, 10, 25), UNKNOWN);
        }
        int[][] outside = {{0, 0, 0, 0}, {1, 1, 0, 0}, {24, 24, 0, 0}, {2, 1, 0, 0}, {24, 0, 0, 0}, {-1, 1, 0, 0}, {-1, 0, 0, 0}, {MIN, 1, 0, 0},
            {0, 25, 0, 0}, {23, 25, 0, 0}, {24, 25, 0, 0}, {0, MAX, 0, 0}, {MAX, MIN, 0, 0}, {0, 1, -1, 0}, {0, 1, 10, 0}, {0, 1, MIN, 0},
            {0, 1, MAX, 0}, {0, 1, 0, -1}, {0, 1, 0, 25}, {0, 1, 0, MIN}, {0, 1, 0, MAX}};
        for (int[] o : outside) {
            refused("7 from " + o[0] + " to " + o[1] + " fault " + o[2] + " line " + o[3], BoundariesTest::some,
                x -> x.caught(1, o[0], o[1], o[2], o[3]), OUTSIDE);
            refused("7 OUTSIDE counts ahead of ROOM", BoundariesTest::fullProgram, x -> x.caught(9, o[0], o[1], o[2], o[3]), OUTSIDE);
        }
        int[][] taken = {{0, 1, 0, 0}, {0, 24, 9, 24}, {23, 24, 1, 23}, {22, 23, 5, 0}};
        Counted x = new Counted();
        x.method(0, 0, 0);
        x.method(0, 0, 0);
        for (int k = 0; k < 4; k++) {
            due("7 from 0 on, 4 at most", x.caught(0, taken[k][0], taken[k][1], taken[k][2], taken[k][3]), k);
        }
        due("7 a fifth", x.caught(0, 0, 1, 0, 0), ROOM);
        due("7 its number there: another METHOD's begin at 0", x.caught(1, 0, 1, 0, 0), 0);
        refused("7 a fifth", BoundariesTest::fullProgram, y -> y.caught(9, 0, 24, 0, 24), ROOM);
        for (int fault = 0; fault <= 9; fault++) {
            due("7 fault 0 to 9", some().caught(1, 0, 1, fault, 0), 0);
        }
    }

    // ---------------------------------------------------------------- promises 8 to 15: the world

    private static void promise8() {
        due("8 no CLASS", new Counted().thing(0), UNKNOWN);
        for (int t : new int[] {-1, 3, 8, -10, MIN, MAX}) {
            refused("8 no CLASS " + t, BoundariesTest::some, x -> x.thing(t), UNKNOWN);
        }
        due("8 the last CLASS", some().thing(2), 2);
        due("8 the eighth CLASS", fullProgram().thing(7), 1);
        refused("8 a 61st", BoundariesTest::fullWorld, x -> x.thing(0), ROOM);
        refused("8 UNKNOWN counts ahead of ROOM", BoundariesTest::fullWorld, x -> x.thing(1), UNKNOWN);
        refused("8 UNKNOWN counts ahead of ROOM", BoundariesTest::fullWorld, x -> x.thing(-1), UNKNOWN);
        Counted x = fullProgram();
        due("8 an object of the eighth", x.thing(7), 1);
        due("8 an object of the first", x.thing(0), 2);
        for (int f = 0; f < 16; f++) {
            due("8 it has the FIELDS of all above it, 0, null at first", x.get(1, f), f % 2 == 1 ? -1 : 0);
            due("8 it has the FIELDS of its CLASS alone", x.put(2, f, -1), f % 8 == 0 ? 1 : UNKNOWN);
        }
        x = fullWorld();
        due("26 60 THINGS", x.count(4), 60);
        due("14 the 60th", x.kind(59), -10 - 59 % 17);
        due("14 no 61st", x.kind(60), UNKNOWN);
    }

    private static void promise9() {
        for (int n : new int[] {-1, 17, MIN, MAX}) {
            refused("9 " + n + " items", BoundariesTest::some, x -> x.array(n), OUTSIDE);
            refused("9 " + n + " items: OUTSIDE counts ahead of ROOM", BoundariesTest::fullWorld, x -> x.array(n), OUTSIDE);
        }
        refused("9 a 61st of 0", BoundariesTest::fullWorld, x -> x.array(0), ROOM);
        refused("9 a 61st of 16", BoundariesTest::fullWorld, x -> x.array(16), ROOM);
        Counted x = new Counted();
        for (int n = 0; n <= 16; n++) {
            due("9 0 to 16 numbers", x.array(n), n);
            due("14 that many", x.kind(n), -10 - n);
            due("10 the last item", x.put(n, n - 1, 5), n == 0 ? UNKNOWN : 1);
            due("10 one behind it", x.put(n, n, 5), UNKNOWN);
        }
        for (int k = 0; k < 15; k++) {
            due("9 all 0 at first", x.get(16, k), 0);
        }
        // rows are used again: what a refused RUN put there must not come through
        Counted y = new Counted();
        int m = y.told(0, 0, 0, l(0, 0, 0, 16), l(9, 0, 0, 0), l(15, 0, 1, 0), l(0, 1, 0, 15), l(15, 0, 1, 0), l(28, 0, 0, 4));
        due("21 writes items of what it makes", y.run(m), FULL);
        due("9 after a RUN that was FULL", y.array(16), 0);
        due("9 all 0 at first", y.get(0, 0), 0);
        due("9 all 0 at first", y.get(0, 15), 0);
    }

    private static void promise10() {
        for (int t : new int[] {-1, 2, 60, MIN, MAX}) {
            refused("10 no THING " + t, BoundariesTest::some, x -> x.put(t, 0, 0), UNKNOWN);
        }
        for (int k : new int[] {-1, 2, 3, 15, 16, 24, 32, MIN, MAX}) {
            refused("10 the object has no FIELD " + k, BoundariesTest::some, x -> x.put(0, k, 0), UNKNOWN);
        }
        for (int k : new int[] {-1, 3, 15, 16, MIN, MAX}) {
            refused("10 the ARRAY has no item " + k, BoundariesTest::some, x -> x.put(1, k, 0), UNKNOWN);
        }
        for (int v : new int[] {-2, 2, 59, 60, MIN, MAX}) {
            refused("10 no THING " + v + " that is told", BoundariesTest::some, x -> x.put(0, 1, v), UNKNOWN);
            Counted x = some();
            due("10 of numbers any is fine", x.put(0, 0, v), 1);
            due("12 of numbers any is fine", x.get(0, 0), v);
            due("10 items are numbers: any is fine", x.put(1, 0, v), 1);
            due("10 the last item", x.put(1, 2, v), 1);
            due("12 the first item", x.get(1, 0), v);
            due("12 the last item", x.get(1, 2), v);
            due("12 the one between", x.get(1, 1), 0);
        }
        for (int v : new int[] {-1, 0, 1}) {
            Counted x = some();
            due("10 null, itself, the last THING", x.put(0, 1, v), 1);
            due("12 null, itself, the last THING", x.get(0, 1), v);
        }
        Counted x = fullWorld();
        due("10 the 60th THING", x.put(58, 0, 59), 1);
        due("12 the 60th THING", x.get(58, 0), 59);
        due("10 no 61st is told", x.put(58, 0, 60), UNKNOWN);
        due("10 no 61st", x.put(60, 0, 0), UNKNOWN);
        Counted y = fullProgram();
        due("10 the last FIELD", y.put(0, 15, 0), 1);
        due("12 the last FIELD", y.get(0, 15), 0);
        due("10 none behind it", y.put(0, 16, 0), UNKNOWN);
        due("10 the last FIELD of numbers", y.put(0, 14, MIN), 1);
        due("12 the last FIELD of numbers", y.get(0, 14), MIN);
    }

    private static void promise11() {
        for (int s : new int[] {-1, 2, 8, MIN, MAX}) {
            refused("11 no STATIC " + s, BoundariesTest::some, x -> x.set(s, 0), UNKNOWN);
        }
        for (int v : new int[] {-2, 2, 60, MIN, MAX}) {
            refused("11 no THING " + v + " that is told", BoundariesTest::some, x -> x.set(1, v), UNKNOWN);
            Counted x = some();
            due("11 of numbers any is fine", x.set(0, v), 1);
            due("13 of numbers any is fine", x.stat(0), v);
        }
        for (int v : new int[] {-1, 0, 1}) {
            Counted x = some();
            due("11 null, the first, the last THING", x.set(1, v), 1);
            due("13 null, the first, the last THING", x.stat(1), v);
        }
        Counted y = fullProgram();
        due("11 the last STATIC", y.set(7, 0), 1);
        due("13 the last STATIC", y.stat(7), 0);
        due("11 none behind it", y.set(8, 0), UNKNOWN);
    }

    private static void promise12() {
        Counted x = some();
        for (int t : new int[] {-1, 2, 60, MIN, MAX}) {
            due("12 no THING " + t, x.get(t, 0), 0);
        }
        for (int k : new int[] {-1, 2, 3, 15, 16, 32, 33, MIN, MAX}) {
            due("12 no FIELD " + k, x.get(0, k), 0);
        }
        for (int k : new int[] {-1, 3, 15, 16, MIN, MAX}) {
            due("12 no item " + k, x.get(1, k), 0);
        }
        due("12 a reference", x.get(0, 1), 1);
        due("12 the last item", x.get(1, 2), 9);
        x.put(0, 1, -1);
        due("12 -1: null", x.get(0, 1), -1);
        x.put(1, 2, -1);
        due("12 a number may be -1, too", x.get(1, 2), -1);
        Counted y = new Counted();
        y.array(0);
        y.array(16);
        y.put(1, 15, 8);
        due("12 nothing of an empty ARRAY", y.get(0, 0), 0);
        due("12 the sixteenth item", y.get(1, 15), 8);
        due("12 no seventeenth", y.get(1, 16), 0);
        due("12 nothing before the first THING", y.get(0, -1), 0);
        due("12 nothing before an ARRAY's first item", y.get(1, -1), 0);
    }

    private static void promise13() {
        Counted x = some();
        for (int s : new int[] {-1, 2, 8, 16, MIN, MAX}) {
            due("13 no STATIC " + s, x.stat(s), 0);
        }
        due("13 the first", x.stat(0), 5);
        due("13 the last", x.stat(1), 0);
        x.set(1, -1);
        due("13 -1: null", x.stat(1), -1);
        due("13 none in a new object", new Counted().stat(0), 0);
    }

    private static void promise14() {
        due("14 none in a new object", new Counted().kind(0), UNKNOWN);
        Counted x = fullProgram();
        due("14 the eighth CLASS", x.kind(0), 7);
        x.thing(0);
        x.array(0);
        x.array(16);
        due("14 the first CLASS", x.kind(1), 0);
        due("14 no items", x.kind(2), -10);
        due("14 16 items", x.kind(3), -26);
        for (int t : new int[] {-1, 4, 60, MIN, MAX}) {
            due("14 no THING " + t, x.kind(t), UNKNOWN);
        }
    }

    private static void promise15() {
        for (int bad : new int[] {-1, 2, MIN, MAX}) {
            refused("15 which " + bad, BoundariesTest::some, x -> x.arg(bad, false, 0, 5), OUTSIDE);
            refused("15 which " + bad, BoundariesTest::some, x -> x.arg(bad, true, 0, -1), OUTSIDE);
            refused("15 OUTSIDE counts ahead of UNKNOWN", BoundariesTest::some, x -> x.arg(bad, true, 0, 60), OUTSIDE);
        }
        for (int bad : new int[] {-1, 3, MIN, MAX}) {
            for (int which = 0; which < 2; which++) {
                int w = which;
                refused("15 k " + bad, BoundariesTest::some, x -> x.arg(w, false, bad, 5), OUTSIDE);
                refused("15 k " + bad, BoundariesTest::some, x -> x.arg(w, true, bad, 0), OUTSIDE);
                refused("15 OUTSIDE counts ahead of UNKNOWN", BoundariesTest::some, x -> x.arg(w, true, bad, 60), OUTSIDE);
            }
        }
        for (int v : new int[] {-2, 2, 60, MIN, MAX}) {
            refused("15 no THING " + v, BoundariesTest::some, x -> x.arg(0, true, 2, v), UNKNOWN);
            refused("15 no THING " + v, BoundariesTest::some, x -> x.arg(1, true, 0, v), UNKNOWN);
        }
        Counted x = some();
        int[] were = {11, 12, 13, 21, 22, 23};
        int[] things = {0, 1, -1, 1, -1, 0};
        for (int i = 0; i < 6; i++) {
            due("15 each number is its own", x.arg(i / 3, false, i % 3, MIN + i), were[i]);
            due("15 each reference is its own", x.arg(i / 3, true, i % 3, i % 3 - 1), things[i]);
        }
        for (int i = 0; i < 6; i++) {
            due("15 any number", x.arg(i / 3, false, i % 3, 0), MIN + i);
            due("15 null, the first, the last THING", x.arg(i / 3, true, i % 3, -1), i % 3 - 1);
        }
        due("15 ARGS of the WORLD: the program's ANALYSIS stays", x.count(6), 1);
    }

    // ---------------------------------------------------------------- promises 16 to 20: what may be

    private static void promise16() {
        Counted x = new Counted();
        due("16 no METHODS", x.analyse(), 0);
        due("26 ANALYSED all the same", x.count(6), 1);
        for (int m = 0; m < 10; m++) {
            due("16 METHODS without LINES are PURE", x.analyse(), m);
            x.method(m % 4, m % 3, m % 3);
        }
        due("16 all 10", x.analyse(), 10);
        due("16 once more", x.analyse(), 10);
        x.line(9, 22, 0, 0, 0);
        due("16 all but one", x.analyse(), 9);
        List<ToIntFunction<Counted>> told = List.of(y -> y.type(-1), y -> y.field(2, true), y -> y.shared(true), y -> y.method(0, 0, 0),
            y -> y.line(0, 28, 0, 0, 0), y -> y.caught(0, 0, 1, 0, 0));
        for (int i = 0; i < told.size(); i++) {
            Counted y = some();
            due("26 ANALYSED", y.count(6), 1);
            due("16 told", Integer.signum(told.get(i).applyAsInt(y) + 1), 1);
            due("16 nothing is ANALYSED any more", y.count(6), 0);
            due("17 nothing is ANALYSED any more", y.effects(0, 0), UNKNOWN);
            due("18 nothing is ANALYSED any more", y.by(0, 0, true), UNKNOWN);
            due("19 nothing is ANALYSED any more", y.may(0, 0, 0), UNKNOWN);
            due("20 nothing is ANALYSED any more", y.free(0, 1), UNKNOWN);
            due("23 the latest RUN's stays", y.foreseen(), 1);
        }
        List<ToIntFunction<Counted>> world = List.of(y -> y.thing(0), y -> y.array(0), y -> y.put(0, 0, 1), y -> y.set(0, 1),
            y -> y.arg(0, false, 0, 1), y -> y.run(0), y -> y.both(0, 1));
        for (int i = 0; i < world.size(); i++) {
            Counted y = some();
            world.get(i).applyAsInt(y);
            due("16 THE WORLD is not the program", y.count(6), 1);
            due("17 THE WORLD is not the program", y.effects(0, 1), 1);
        }
    }

    private static void promise16Anew() {
        Counted x = new Counted();
        x.shared(true);
        x.shared(false);
        int calls = x.method(0, 1, 2);
        int called = x.method(0, 0, 0);
        int[][] lines = {l(21, 0, called, 0), l(14, 0, 0, 0), l(18, 7, 0, 0), l(17, 1, 0, 0), l(22, 0, 0, 0), l(31, 7, 0, 0)};
        for (int[] line : lines) {
            x.line(calls, line[0], line[1], line[2], line[3]);
        }
        due("16 one is PURE", x.analyse(), 1);
        int[] first = {ITEMS | 1 << 16, 1 << 17, 1, 56, 33, 0, 0, 1};
        for (int what = 0; what < 8; what++) {
            due("17 effects " + what + " as long as the METHOD that it calls ENDS", x.effects(calls, what), first[what]);
        }
        due("19 REACHED", x.may(calls, 5, 7), 33);
        x.line(called, 28, 0, 0, 0);
        due("16 both are PURE", x.analyse(), 2);
        for (int what = 0; what < 8; what++) {
            due("17 effects " + what + " are the least: nothing stays of what was", x.effects(calls, what), what == 5 ? 1 : 0);
        }
        for (int way = 0; way < 4; way++) {
            due("18 nothing stays of what was", x.by(calls, way, true) | x.by(calls, way, false), 0);
        }
        due("19 nothing stays of what was", x.may(calls, 1, 0), 0);
        due("19 its first LINE is REACHED", x.may(calls, 0, 0), 5);
        due("19 not REACHED any more", x.may(calls, 5, 7), 0);
        due("20 nothing stays of what was", x.free(calls, calls), 1);
        Counted y = oneClass();
        int back = y.method(0, 1, 0);
        int ends = y.method(0, 0, 0);
        y.line(back, 21, 0, ends, 0);
        y.line(back, 8, 0, 0, 0);
        y.line(back, 28, 0, 0, 0);
        y.analyse();
        due("19 back at the first LINE with NEW", y.may(back, 0, 0), 7);
        y.line(ends, 28, 0, 0, 0);
        y.analyse();
        due("19 not back at the first LINE any more", y.may(back, 0, 0), 5);
    }

    private static void promise17() {
        for (int m : new int[] {-1, 2, 10, MIN, MAX}) {
            due("17 no METHOD " + m, some().effects(m, 0), UNKNOWN);
            due("17 UNKNOWN counts ahead of OUTSIDE", some().effects(m, 8), UNKNOWN);
        }
        for (int what : new int[] {-1, 8, MIN, MAX}) {
            due("17 what " + what, some().effects(0, what), OUTSIDE);
            Counted x = some();
            x.type(-1);
            due("17 not ANALYSED counts ahead of OUTSIDE", x.effects(0, what), UNKNOWN);
        }
        Counted x = fullProgram();
        Counted y = new Counted();
        y.type(-1);
        for (int f = 0; f < 16; f++) {
            y.field(0, f == 15);
        }
        for (int s = 0; s < 8; s++) {
            y.shared(s == 7);
        }
        y.told(0, 1, 0, l(10, 0, 0, 0), l(12, 1, 0, 15), l(14, 0, 0, 0), l(16, 0, 0, 0), l(18, 1, 7, 0));
        y.told(0, 1, 0, l(11, 0, 0, 0), l(13, 0, 0, 15), l(15, 0, 0, 0), l(17, 0, 0, 0), l(19, 7, 0, 0));
        y.told(0, 1, 0, l(20, 0, 0, 0));
        due("16 two are PURE", y.analyse(), 2);
        int all = 1 | 1 << 15 | 1 << 16 | 1 << 23 | ITEMS;
        due("17 READS the first and last FIELD, STATIC, items", y.effects(0, 0), all);
        due("17 WRITES none", y.effects(0, 1), 0);
        due("17 READS none", y.effects(1, 0), 0);
        due("17 WRITES the first and last FIELD, STATIC, items", y.effects(1, 1), all);
        due("17 how many items is no PLACE", y.effects(2, 0), 0);
        due("17 PURE", y.effects(0, 5), 1);
        due("17 but not REPEATABLE", y.effects(0, 6), 0);
        due("17 REPEATABLE", y.effects(2, 6), 1);
        due("17 not PURE", y.effects(1, 5), 0);
        due("17 not REPEATABLE", y.effects(1, 6), 0);
        due("17 24 LINES, the last one REACHED: prints", x.effects(9, 2), 1);
        due("17 the tenth METHOD ENDS", x.effects(9, 7), 1);
        Counted z = new Counted();
        for (int result = 0; result <= 2; result++) {
            int m = z.method(0, 0, result);
            z.analyse();
            due("17 empty: ENDS", z.effects(m, 7), 1);
            due("17 empty: null, if a reference", z.effects(m, 4), result == 2 ? 1 : 0);
            due("17 empty: REPEATABLE without a reference", z.effects(m, 6), result == 2 ? 0 : 1);
            due("17 empty: no FAULTS", z.effects(m, 3), 0);
        }
    }

    private static void promise17Ways() {
        Counted x = oneClass();
        for (int k = 0; k < 3; k++) {
            int reads = x.told(0, 3, 0, l(10, 0, k, 0));
            int writes = x.told(0, 3, 0, l(11, k, 0, 0));
            due("16 those that READ are PURE", x.analyse(), k + 1);
            due("17 READ by way of PARAM " + k + " alone", x.effects(reads, 0), 1);
            due("17 READS: not REPEATABLE, by PARAM " + k, x.effects(reads, 6), 0);
            due("17 WRITTEN by way of PARAM " + k + " alone", x.effects(writes, 1), 1);
            due("17 WRITES: not PURE, by PARAM " + k, x.effects(writes, 5), 0);
            due("20 by way of PARAM " + k + " alone", x.free(reads, writes), 0);
            due("20 by way of PARAM " + k + " alone", x.free(writes, reads), 0);
        }
        int nothing = x.told(0, 3, 0, l(8, 3, 0, 0), l(11, 3, 0, 0), l(10, 0, 3, 0), l(6, 4, 0, 0), l(10, 0, 4, 0));
        x.analyse();
        due("17 by way of NEW, null: nothing", x.effects(nothing, 0) | x.effects(nothing, 1), 0);
        due("17 by way of NEW, null: REPEATABLE", x.effects(nothing, 6), 1);
        due("17 null at the last LINE", x.effects(nothing, 7), 0);
    }

    private static void promise17Faults() {
        int[][] lines = {l(4, 0, 0, 0), l(5, 0, 0, 0), l(9, 0, 0, 0), l(10, 0, 0, 0), l(11, 0, 0, 0), l(12, 3, 0, 1), l(13, 0, 3, 1),
            l(14, 0, 0, 0), l(15, 0, 0, 0), l(20, 0, 0, 0), l(29, 0, 0, 0), l(30, 0, 0, 0), l(30, 3, 0, 0), l(3, 0, 0, 0), l(8, 0, 0, 0),
            l(27, 0, 0, 9), l(22, 0, 0, 0)};
        int[] ofBoth = {2, 2, 4, 40, 40, 40, 40, 56, 56, 40, 32, 64, 512, 0, 0, 0, 0};
        for (int i = 0; i < lines.length; i++) {
            int op = lines[i][0];
            boolean onR = op >= 10 && op <= 15 || op == 20 || op == 29;
            Counted y = oneClass();
            int both = y.told(0, 1, 0, lines[i]);
            int some = y.told(0, 1, 0, l(25, 0, 0, 2), lines[i]);
            int none = y.told(0, 0, 0, lines[i]);
            y.analyse();
            due("17 FAULTS of " + op + " on null or something", y.effects(both, 3), ofBoth[i]);
            due("17 FAULTS of " + op + " on something alone", y.effects(some, 3), onR ? ofBoth[i] & ~8 : ofBoth[i]);
            due("17 FAULTS of " + op + " on null alone", y.effects(none, 3), onR ? ofBoth[i] & 8 : ofBoth[i]);
            boolean goesOn = op != 30 && (!onR || op == 29);
            due("17 ENDS of " + op + " on null alone", y.effects(none, 7), goesOn ? 1 : 0);
            due("17 on null alone nothing is touched", y.effects(none, 0) | y.effects(none, 1), 0);
        }
    }

    private static Counted oneClass() {
        Counted x = new Counted();
        x.type(-1);
        x.field(0, false);
        x.field(0, true);
        return x;
    }

    private static void promise17Ends() {
        Counted x = new Counted();
        x.shared(false);
        int self = x.told(0, 0, 0, l(22, 0, 0, 0), l(21, 0, 0, 0), l(17, 0, 0, 0));
        int on = x.told(0, 0, 2, l(28, 0, 0, 24));
        int just = x.told(0, 0, 2, l(28, 0, 0, 1));
        int here = x.told(0, 0, 2, l(28, 0, 0, 0));
        int thrown = x.told(0, 0, 2, l(30, 0, 0, 0));
        int caught = x.told(0, 0, 2, l(30, 0, 0, 0));
        x.caught(caught, 0, 1, 6, 24);
        int other = x.told(0, 0, 2, l(30, 0, 0, 0), l(0, 0, 0, 0));
        x.caught(other, 1, 24, 0, 1);
        x.caught(other, 0, 1, 7, 1);
        int waits = x.told(0, 0, 1, l(21, 0, self, 0), l(17, 0, 0, 0), l(31, 0, 0, 0));
        due("16 all but those that print", x.analyse(), 6);
        due("17 only itself within: does not END", x.effects(self, 7), 0);
        due("17 behind a METHOD that does not END nothing is REACHED", x.effects(self, 1), 0);
        due("17 on at 24: behind the last", x.effects(on, 7), 1);
        due("17 null behind the last", x.effects(on, 4), 1);
        due("17 on at the LINE behind the last", x.effects(just, 7), 1);
        due("17 null behind the last", x.effects(just, 4), 1);
        due("17 on at itself: does not END", x.effects(here, 7), 0);
        due("17 no RESULT where it does not END", x.effects(here, 4), 0);
        due("17 thrown: does not END", x.effects(thrown, 7), 0);
        due("17 caught: behind the last", x.effects(caught, 7), 1);
        due("17 caught: null", x.effects(caught, 4), 1);
        due("17 caught: no FAULT", x.effects(caught, 3), 0);
        due("17 a CATCH of other LINES, of another FAULT", x.effects(other, 3), 64);
        due("17 a CATCH of other LINES, of another FAULT", x.effects(other, 7), 0);
        due("17 its printing counts at once", x.effects(waits, 2), 1);
        due("17 behind the call nothing is REACHED", x.effects(waits, 1), 0);
        due("17 it does not END", x.effects(waits, 7), 0);
    }

    /** Method k calls method k + 1: what the tenth may do comes to the first by nine calls. */
    private static Counted tenInARow(int result, int[]... last) {
        Counted x = new Counted();
        x.type(-1);
        x.field(0, false);
        x.shared(false);
        for (int m = 0; m < 10; m++) {
            x.method(1, 1, result);
        }
        for (int m = 0; m < 9; m++) {
            x.line(m, 21, 0, m + 1, 0);
            x.line(m, 31, 0, 0, 0);
        }
        for (int[] line : last) {
            x.line(9, line[0], line[1], line[2], line[3]);
        }
        x.analyse();
        return x;
    }

    private static void promise17Through() {
        int[][] lines = {l(31, 0, 0, 0), l(22, 0, 0, 0), l(30, 3, 0, 0), l(17, 0, 0, 0), l(16, 0, 0, 0), l(11, 0, 0, 0), l(28, 0, 0, 0)};
        int[][] dues = {
            {0, 0, 0, 0, 5, 1, 0, 1}, {0, 0, 1, 0, 1, 0, 0, 1}, {0, 0, 0, 512, 0, 1, 0, 0}, {0, 1 << 16, 0, 0, 1, 0, 0, 1},
            {1 << 16, 0, 0, 0, 1, 1, 0, 1}, {0, 1, 0, 40, 1, 0, 0, 1}, {0, 0, 0, 0, 0, 1, 0, 0}};
        for (int i = 0; i < lines.length; i++) {
            Counted x = tenInARow(2, lines[i]);
            for (int m = 0; m < 10; m++) {
                for (int what = 0; what < 8; what++) {
                    due("17 effects " + what + " of " + lines[i][0] + " in the tenth, of METHOD " + m, x.effects(m, what), dues[i][what]);
                }
                due("18 by way of PARAM 0, of METHOD " + m, x.by(m, 0, true), lines[i][0] == 11 ? 1 : 0);
                due("18 by way of OLD, of METHOD " + m, x.by(m, 3, true), lines[i][0] == 17 ? 1 << 16 : 0);
            }
        }
        for (int result = 0; result <= 2; result++) {
            Counted x = tenInARow(result);
            Counted y = tenInARow(result, l(22, 0, 0, 0), l(28, 0, 0, 0));
            for (int m = 0; m < 10; m++) {
                due("17 the tenth has no LINES: ENDS", x.effects(m, 7), 1);
                due("17 the tenth has no LINES: null, if a reference", x.effects(m, 4), result == 2 ? 1 : 0);
                due("17 the tenth prints and does not END", y.effects(m, 2), 1);
                due("17 the tenth prints and does not END", y.effects(m, 7), 0);
            }
        }
        Counted row = new Counted();
        for (int k = 0; k < 10; k++) {
            row.method(0, 0, 0);
        }
        for (int k = 0; k < 9; k++) {
            row.line(k, 21, 0, k + 1, 0);
        }
        row.analyse();
        for (int k = 0; k < 10; k++) {
            due("17 behind the last LINE, which calls one that ENDS", row.effects(k, 7), 1);
        }
        // each LINE goes on at the one ahead of it: what is REACHED grows by one LINE a time
        Counted back = new Counted();
        int m = back.method(0, 0, 2);
        back.line(m, 28, 0, 0, 22);
        back.line(m, 31, 0, 0, 0);
        for (int i = 2; i < 23; i++) {
            back.line(m, 28, 0, 0, i - 1);
        }
        back.line(m, 22, 0, 0, 0);
        back.analyse();
        due("17 from the last LINE but one back to the second", back.effects(m, 7), 1);
        due("17 the last LINE is not REACHED", back.effects(m, 2), 0);
        for (int i = 0; i < 23; i++) {
            due("19 all others are REACHED", back.may(m, i, 7), 1);
        }
    }

    private static void promise18() {
        for (int m : new int[] {-1, 2, 10, MIN, MAX}) {
            due("18 no METHOD " + m, some().by(m, 0, true), UNKNOWN);
            due("18 UNKNOWN counts ahead of OUTSIDE", some().by(m, 4, false), UNKNOWN);
        }
        for (int way : new int[] {-1, 4, MIN, MAX}) {
            due("18 way " + way, some().by(0, way, true), OUTSIDE);
            due("18 way " + way, some().by(0, way, false), OUTSIDE);
            Counted x = some();
            x.type(-1);
            due("18 not ANALYSED counts ahead of OUTSIDE", x.by(0, way, false), UNKNOWN);
        }
        Counted x = new Counted();
        x.type(-1);
        for (int f = 0; f < 16; f++) {
            x.field(0, f == 15);
        }
        for (int s = 0; s < 8; s++) {
            x.shared(s == 7);
        }
        int reads = x.told(0, 3, 0, l(10, 0, 0, 0), l(14, 0, 1, 0), l(12, 3, 2, 15), l(10, 0, 3, 1), l(18, 3, 7, 0));
        int writes = x.told(0, 3, 0, l(11, 0, 0, 0), l(15, 1, 0, 0), l(13, 2, 0, 15), l(18, 3, 7, 0), l(11, 3, 0, 1), l(17, 0, 0, 0));
        int calls = x.told(0, 3, 0, l(7, 5, 2, 0), l(7, 6, 0, 0), l(8, 7, 0, 0), l(21, 0, writes, 5));
        int none = x.told(0, 3, 0, l(21, 0, reads, 3));
        x.analyse();
        int[] r = {1, ITEMS, 1 << 15, 2 | 1 << 23};
        int[] w = {1, ITEMS, 1 << 15, 2 | 1 << 16};
        int[] c = {ITEMS, 0, 1, 2 | 1 << 16};
        for (int way = 0; way < 4; way++) {
            due("18 READ by way " + way, x.by(reads, way, false), r[way]);
            due("18 WRITTEN by way " + way, x.by(reads, way, true), 0);
            due("18 WRITTEN by way " + way, x.by(writes, way, true), w[way]);
            due("18 READ by way " + way, x.by(writes, way, false), way == 3 ? 1 << 23 : 0);
            due("18 by a call, the last ones R 5 to R 7, way " + way, x.by(calls, way, true), c[way]);
            due("18 by a call with null alone: OLD as it is, way " + way, x.by(none, way, false), way == 3 ? 2 | 1 << 23 : 0);
        }
    }

    private static void promise18Calls() {
        for (int q = 0; q <= 3; q++) {
            Counted x = new Counted();
            x.type(-1);
            x.field(0, false);
            x.shared(true);
            int called = x.told(0, q, 0, l(18, 7, 0, 0), l(10, 0, 7, 0), l(11, 7, 0, 0));
            int calls = x.told(0, 3, 0, l(7, 3, 0, 0), l(7, 4, 1, 0), l(7, 5, 2, 0), l(7, 6, 0, 0), l(7, 7, 1, 0), l(21, 0, called, 2));
            x.analyse();
            for (int way = 0; way < 3; way++) {
                due("18 by way of OLD as it is, with " + q + " references: not by PARAM " + way, x.by(calls, way, false), 0);
                due("18 by way of OLD as it is, with " + q + " references: not by PARAM " + way, x.by(calls, way, true), 0);
            }
            due("18 by way of OLD as it is, with " + q + " references", x.by(calls, 3, false), 1 | 1 << 16);
            due("18 by way of OLD as it is, with " + q + " references", x.by(calls, 3, true), 1);
        }
        // R 5 may be of PARAM 0 or 1, null or NEW; R 6 OLD
        Counted x = oneClass();
        x.shared(true);
        int called = x.told(0, 2, 0, l(10, 0, 0, 0), l(13, 1, 0, 1));
        int calls = x.told(1, 2, 0, l(7, 5, 0, 0), l(24, 0, 1, 5), l(7, 5, 1, 0), l(24, 0, 1, 5), l(8, 5, 0, 0), l(18, 6, 0, 0), l(21, 0, called, 5));
        x.analyse();
        due("19 some of several", x.may(calls, 6, 5), 15);
        int[] read = {1, 1, 0, 1 << 16};
        int[] written = {0, 0, 0, 2};
        for (int way = 0; way < 4; way++) {
            due("18 by each that R c may be, way " + way, x.by(calls, way, false), read[way]);
            due("18 by each that R c + 1 may be, way " + way, x.by(calls, way, true), written[way]);
        }
    }

    private static void promise19() {
        for (int m : new int[] {-1, 2, 10, MIN, MAX}) {
            due("19 no METHOD " + m, some().may(m, 0, 0), UNKNOWN);
        }
        for (int line : new int[] {-1, 4, 24, 25, MIN, MAX}) {
            due("19 no LINE " + line, some().may(0, line, 0), UNKNOWN);
        }
        for (int r : new int[] {-1, 8, MIN, MAX}) {
            due("19 no R " + r, some().may(0, 0, r), UNKNOWN);
        }
        due("19 a METHOD without LINES has none", fullProgram().may(0, 0, 0), UNKNOWN);
        Counted x = fullProgram();
        due("19 the last LINE of 24", x.may(9, 23, 7), 1);
        due("19 no 25th", x.may(9, 24, 0), UNKNOWN);
        Counted y = new Counted();
        for (int q = 0; q <= 3; q++) {
            int m = y.told(0, q, 0, l(28, 0, 0, 0), l(0, 0, 0, 0));
            y.analyse();
            for (int r = 0; r < 8; r++) {
                due("19 at the beginning R " + r + " with " + q + " references", y.may(m, 0, r), r < q ? 1 | 4 << r : 1);
                due("19 not REACHED", y.may(m, 1, r), 0);
            }
        }
        Counted z = some();
        z.line(0, 0, 0, 0, 0);
        due("19 not ANALYSED", z.may(0, 0, 0), UNKNOWN);
    }

    private static void promise19Branches() {
        Counted x = new Counted();
        x.type(-1);
        int onNull = x.told(0, 0, 0, l(25, 7, 0, 2), l(22, 0, 0, 0), l(0, 0, 0, 0));
        int onNew = x.told(0, 0, 0, l(8, 7, 0, 0), l(25, 7, 0, 3), l(28, 0, 0, 24), l(22, 0, 0, 0));
        int kind = x.told(0, 0, 0, l(27, 7, 0, 2), l(28, 0, 0, 24), l(22, 0, 0, 0));
        int param = x.told(0, 1, 0, l(27, 0, 0, 2), l(28, 0, 0, 24), l(22, 0, 0, 0));
        int same = x.told(0, 2, 0, l(26, 0, 1, 2), l(28, 0, 0, 24), l(22, 0, 0, 0));
        int next = x.told(0, 1, 0, l(25, 0, 0, 1), l(22, 0, 0, 0));
        int behind = x.told(0, 1, 2, l(25, 0, 0, 24), l(30, 0, 0, 0));
        int itself = x.told(0, 1, 0, l(25, 0, 0, 0), l(22, 0, 0, 0));
        x.analyse();
        due("19 25 of null alone: not behind it", x.may(onNull, 1, 0), 0);
        due("19 25 of null alone: at c", x.may(onNull, 2, 7), 1);
        due("17 what is not REACHED does not print", x.effects(onNull, 2), 0);
        due("19 25 of NEW alone: not at c", x.may(onNew, 3, 0), 0);
        due("19 25 of NEW alone: behind it", x.may(onNew, 2, 7), 2);
        due("19 27 of null alone: not at c", x.may(kind, 2, 0), 0);
        due("19 27 of null alone: behind it", x.may(kind, 1, 7), 1);
        due("19 27: not null at c", x.may(param, 2, 0), 4);
        due("19 27: as it was behind it", x.may(param, 1, 0), 5);
        due("19 26: as it was at c", x.may(same, 2, 0), 5);
        due("19 26: as it was behind it", x.may(same, 1, 1), 9);
        due("19 25 with c just behind it: both", x.may(next, 1, 0), 5);
        due("17 25 with c behind the last", x.effects(behind, 4), 1);
        due("17 25 with c behind the last", x.effects(behind, 7), 1);
        due("19 25 with c at itself", x.may(itself, 0, 0), 5);
        due("19 25 with c at itself", x.may(itself, 1, 0), 4);
        Counted y = new Counted();
        y.type(-1);
        int never = y.told(0, 0, 2, l(8, 7, 0, 0), l(25, 7, 0, 24), l(28, 0, 0, 2));
        int last = y.told(0, 0, 2, l(28, 0, 0, 1), l(25, 7, 0, 0));
        int neither = y.told(0, 0, 2, l(27, 7, 0, 24), l(28, 0, 0, 1));
        int either = y.told(0, 1, 2, l(27, 0, 0, 24), l(28, 0, 0, 1));
        y.analyse();
        due("17 25 of NEW alone: not behind the last by c", y.effects(never, 7), 0);
        due("17 25 of null alone as the last LINE: not behind it", y.effects(last, 7), 0);
        due("17 27 of null alone: not behind the last by c", y.effects(neither, 7), 0);
        due("17 27 of something: behind the last by c", y.effects(either, 7), 1);
    }

    /** What R 7 may be behind a line whose R 7 may be null or of PARAM 0 before. */
    private static void behind(String what, int[] line, int want) {
        Counted x = oneClass();
        x.shared(true);
        int m = x.told(1, 3, 0, l(7, 7, 0, 0), line, l(28, 0, 0, 3), l(22, 0, 0, 0));
        x.analyse();
        due("19 before it", x.may(m, 1, 7), 5);
        due("19 behind " + what, x.may(m, 2, 7), want);
        due("19 others are as they were behind " + what, x.may(m, 2, 6), 1);
        due("19 others are as they were behind " + what, x.may(m, 2, 2), 17);
    }

    private static void promise19Lines() {
        behind("6: null", l(6, 7, 0, 0), 1);
        behind("7: as R b", l(7, 7, 2, 0), 17);
        behind("7 of itself", l(7, 7, 7, 0), 5);
        behind("8: NEW", l(8, 7, 0, 0), 2);
        behind("9: NEW", l(9, 7, 0, 0), 2);
        behind("10: not null", l(10, 0, 7, 0), 4);
        behind("11: not null", l(11, 7, 0, 0), 4);
        behind("12 of itself: null or OLD", l(12, 7, 7, 1), 33);
        behind("12 to another: not null", l(12, 5, 7, 1), 4);
        behind("12 to it: null or OLD", l(12, 7, 1, 1), 33);
        behind("13: not null", l(13, 7, 0, 1), 4);
        behind("13: R b as it was", l(13, 0, 7, 1), 5);
        behind("14: not null", l(14, 0, 7, 0), 4);
        behind("15: not null", l(15, 7, 0, 0), 4);
        behind("18: null or OLD", l(18, 7, 0, 0), 33);
        behind("19: as it was", l(19, 0, 7, 0), 5);
        behind("20: not null", l(20, 0, 7, 0), 4);
        behind("22: as it was", l(22, 7, 0, 0), 5);
        behind("0: as it was", l(0, 7, 0, 0), 5);
        behind("4: as it was", l(4, 7, 7, 7), 5);
        behind("23: as it was", l(23, 7, 0, 3), 5);
        behind("24: as it was", l(24, 7, 0, 3), 5);
        behind("25: not null", l(25, 7, 0, 3), 4);
        behind("26: as it was", l(26, 7, 0, 3), 5);
        behind("27: as it was", l(27, 7, 0, 3), 5);
        behind("29: as it is", l(29, 7, 0, 0), 5);
        int[] atC = {23, 24, 25, 26, 27, 28};
        int[] dues = {5, 5, 1, 5, 4, 5};
        for (int k = 0; k < 6; k++) {
            Counted x = oneClass();
            x.told(0, 0, 0, l(28, 0, 0, 0));
            int m = x.told(0, 1, 0, l(7, 7, 0, 0), l(atC[k], 7, 0, 23));
            for (int i = 2; i < 24; i++) {
                x.line(m, 31, 0, 0, 0);
            }
            x.analyse();
            due("19 at LINE c, the last one, of " + atC[k], x.may(m, 23, 7), dues[k]);
            due("19 not between, of " + atC[k], x.may(m, 22, 7), 0);
            due("19 behind it, of " + atC[k], x.may(m, 2, 7) == 0 ? 0 : 1, atC[k] == 28 ? 0 : 1);
        }
        Counted x = new Counted();
        int ends = x.told(0, 0, 0, l(31, 9, 9, 9), l(22, 0, 0, 0));
        int throwing = x.told(0, 0, 0, l(30, 0, 0, 0), l(22, 0, 0, 0));
        x.analyse();
        due("19 31: none", x.may(ends, 1, 0), 0);
        due("17 31: ENDS", x.effects(ends, 7), 1);
        due("19 30: none", x.may(throwing, 1, 0), 0);
    }

    private static void promise19Results() {
        Counted x = oneClass();
        x.shared(true);
        int[][] last = {l(6, 7, 0, 0), l(8, 7, 0, 0), l(18, 7, 0, 0), l(7, 7, 0, 0), l(7, 7, 1, 0), l(7, 7, 2, 0)};
        int[] results = {1, 2, 33, 5, 9, 17};
        // R 4 NEW, R 5 of PARAM 1 or null, R 6 null or OLD; R 7, behind the last reference, NEW
        int[] comes = {1, 2, 33, 3, 9, 33};
        for (int i = 0; i < last.length; i++) {
            Counted y = oneClass();
            y.shared(true);
            int called = y.told(0, 3, 2, last[i], l(31, 7, 0, 0));
            int calls = y.told(0, 2, 2, l(8, 4, 0, 0), l(7, 5, 1, 0), l(18, 6, 0, 0), l(8, 7, 0, 0), l(21, 0, called, 4), l(31, 4, 0, 0));
            int number = y.told(0, 3, 1, last[i], l(31, 7, 0, 0));
            int other = y.told(0, 2, 0, l(8, 4, 0, 0), l(21, 0, number, 4), l(28, 0, 0, 2));
            y.analyse();
            due("17 RESULT of R 7 at 31", y.effects(called, 4), results[i]);
            due("17 no reference as RESULT: 0", y.effects(number, 4), 0);
            due("19 the RESULT's comes to R c", y.may(calls, 5, 4), comes[i]);
            due("17 the RESULT's goes on", y.effects(calls, 4), comes[i]);
            due("19 R c + 1 is as it was", y.may(calls, 5, 5), 9);
            due("19 R c + 2 is as it was", y.may(calls, 5, 6), 33);
            due("19 a number comes to no R", y.may(other, 2, 4), 2);
        }
        int several = x.told(1, 3, 2, l(24, 0, 1, 5), l(24, 0, 2, 6), l(24, 0, 3, 7), l(24, 0, 4, 8), l(31, 3, 0, 0), l(31, 0, 0, 0), l(31, 2, 0, 0),
            l(31, 1, 0, 0), l(8, 3, 0, 0), l(31, 3, 0, 0));
        x.analyse();
        due("17 each that a 31 may end with", x.effects(several, 4), 31);
        x.line(several, 18, 3, 0, 0);
        x.line(several, 31, 3, 0, 0);
        x.analyse();
        due("17 not those of a 31 that is not REACHED", x.effects(several, 4), 31);
        x.caught(several, 0, 24, 0, 10);
        x.analyse();
        due("17 none of these LINES throws", x.effects(several, 4), 31);
    }

    private static void promise19Faults() {
        Counted x = new Counted();
        x.type(-1);
        x.field(0, true);
        int m = x.told(0, 1, 2, l(12, 0, 0, 0), l(28, 0, 0, 24), l(31, 0, 0, 0), l(31, 7, 0, 0));
        x.caught(m, 0, 1, 3, 2);
        x.caught(m, 0, 1, 3, 3);
        x.caught(m, 0, 1, 4, 3);
        x.analyse();
        due("19 with all as it was before the LINE", x.may(m, 2, 0), 5);
        due("19 the first CATCH alone; no FAULT 4 at 12", x.may(m, 3, 0), 0);
        due("17 FAULT 5 has no CATCH", x.effects(m, 3), 32);
        x.caught(m, 0, 24, 0, 3);
        x.analyse();
        due("19 0: any other FAULT", x.may(m, 3, 0), 5);
        due("17 none is left", x.effects(m, 3), 0);
        int last = x.told(0, 0, 0, l(28, 0, 0, 23), l(22, 0, 0, 0));
        for (int i = 2; i < 23; i++) {
            x.line(last, 0, 0, 0, 0);
        }
        due("6 the 24th", x.line(last, 30, 0, 0, 0), 23);
        x.caught(last, 22, 23, 0, 1);
        x.analyse();
        due("19 to is not within", x.may(last, 1, 0), 0);
        due("17 to is not within", x.effects(last, 3), 64);
        x.caught(last, 23, 24, 0, 1);
        x.analyse();
        due("19 the last LINE is within", x.may(last, 1, 0), 1);
        due("17 the last LINE is within", x.effects(last, 3), 0);
    }

    private static void promise20() {
        for (int m : new int[] {-1, 2, 10, MIN, MAX}) {
            due("20 no METHOD " + m, some().free(m, 0), UNKNOWN);
            due("20 no METHOD " + m, some().free(0, m), UNKNOWN);
            due("20 no METHOD " + m, some().free(m, m), UNKNOWN);
        }
        Counted x = new Counted();
        x.type(-1);
        for (int f = 0; f < 16; f++) {
            x.field(0, false);
        }
        for (int s = 0; s < 8; s++) {
            x.shared(false);
        }
        int[][] reads = {l(10, 0, 0, 0), l(10, 0, 0, 15), l(16, 0, 7, 0), l(14, 0, 0, 0)};
        int[][] writes = {l(11, 0, 0, 0), l(11, 0, 0, 15), l(17, 7, 0, 0), l(15, 0, 0, 0)};
        for (int i = 0; i < 4; i++) {
            x.told(0, 1, 0, reads[i]);
            x.told(0, 1, 0, writes[i]);
        }
        int prints = x.told(0, 0, 0, l(22, 0, 0, 0));
        int empty = x.method(0, 0, 0);
        x.analyse();
        for (int i = 0; i < 8; i++) {
            for (int j = 0; j < 8; j++) {
                boolean apart = i / 2 != j / 2 || i % 2 == 0 && j % 2 == 0;
                due("20 PLACES " + i + ", " + j, x.free(i, j), apart ? 1 : 0);
            }
            due("20 one prints", x.free(i, prints), 1);
            due("20 one prints", x.free(prints, i), 1);
            due("20 the last METHOD does nothing", x.free(empty, i), 1);
        }
        due("20 both print", x.free(prints, prints), 0);
        due("20 with itself", x.free(empty, empty), 1);
        x.type(-1);
        due("20 not ANALYSED", x.free(empty, empty), UNKNOWN);
    }

    // ---------------------------------------------------------------- promises 21 to 23: runs

    private static void promise21Refused() {
        due("21 no METHOD in a new object", new Counted().run(0), UNKNOWN);
        for (int m : new int[] {-1, 2, 10, MIN, MAX}) {
            refused("21 no METHOD " + m, BoundariesTest::some, x -> x.run(m), UNKNOWN);
        }
        Counted x = fullProgram();
        due("21 the tenth", x.run(9), 0);
        due("21 no eleventh", x.run(10), UNKNOWN);
        due("22 the tenth did all its LINES", x.did(3), 24);
        due("21 one without LINES", x.run(0), 0);
        due("22 one without LINES does none", x.did(3), 0);
        Counted y = fullWorld();
        int same = y.told(0, 3, 2, l(31, 2, 0, 0));
        y.things(0, -1, 0, 59);
        due("21 with the last THING", y.run(same), 0);
        due("22 the last THING", y.did(5), 59);
        y.things(0, 0, 59, -1);
        due("21 with null", y.run(same), 0);
        due("22 null", y.did(5), -1);
    }

    private static void ofTwo(String what, int op, int b, int c, int want) {
        Counted x = new Counted();
        int m = x.told(2, 0, 1, l(op, 2, 0, 1), l(31, 2, 0, 0));
        x.numbers(0, b, c);
        due("21 " + what, x.run(m), 0);
        due("22 " + what, x.did(5), want);
    }

    private static void promise21Numbers() {
        ofTwo("+ wraps", 1, MAX, 1, MIN);
        ofTwo("+ wraps", 1, MIN, -1, MAX);
        ofTwo("+ wraps", 1, MIN, MIN, 0);
        ofTwo("- wraps", 2, MIN, 1, MAX);
        ofTwo("- wraps", 2, 0, MIN, MIN);
        ofTwo("- wraps", 2, MAX, -1, MIN);
        ofTwo("* wraps", 3, MAX, 2, -2);
        ofTwo("* wraps", 3, MIN, -1, MIN);
        ofTwo("* wraps", 3, 65536, 65536, 0);
        ofTwo("/ wraps", 4, MIN, -1, MIN);
        ofTwo("/ goes towards 0", 4, -7, 2, -3);
        ofTwo("/ goes towards 0", 4, 7, -2, -3);
        ofTwo("% of the least", 5, MIN, -1, 0);
        ofTwo("% has the sign of N b", 5, -7, 2, -1);
        ofTwo("% has the sign of N b", 5, 7, -2, 1);
        for (int c : new int[] {MIN, -1, 0, MAX}) {
            Counted x = new Counted();
            int m = x.told(0, 0, 1, l(0, 7, 9, c), l(31, 7, 0, 0));
            due("21 N a = c", x.run(m), 0);
            due("22 any c", x.did(5), c);
        }
        int[][] pairs = {{MIN, MAX}, {MAX, MIN}, {-1, 0}, {0, 0}, {0, -1}, {MAX, MAX}, {MIN, MIN}, {MIN, 1}, {MAX, -1}};
        for (int[] pair : pairs) {
            for (int op = 23; op <= 24; op++) {
                Counted x = new Counted();
                int m = x.told(2, 0, 0, l(op, 0, 1, 2), l(30, 0, 0, 0));
                x.numbers(0, pair);
                boolean there = op == 23 ? pair[0] < pair[1] : pair[0] == pair[1];
                due("21 " + op + " of " + pair[0] + ", " + pair[1], x.run(m), there ? 0 : 6);
            }
        }
    }

    private static void promise21Locals() {
        for (int n = 0; n <= 3; n++) {
            Counted x = new Counted();
            x.array(0);
            int numbers = x.told(n, 0, 0, l(22, 0, 0, 0), l(22, 1, 0, 0), l(22, 2, 0, 0), l(22, 3, 0, 0), l(22, 4, 0, 0), l(22, 5, 0, 0),
                l(22, 6, 0, 0), l(22, 7, 0, 0));
            x.numbers(0, 11, 12, 13);
            x.numbers(1, 21, 22, 23);
            x.things(0, 0, 0, 0);
            due("21 N 0 to 7", x.run(numbers), 0);
            for (int k = 0; k < 8; k++) {
                due("21 " + n + " PARAMS are the first ones, others 0: N " + k, x.printed(k), k < n ? 11 + k : 0);
            }
            for (int k = 0; k < 8; k++) {
                int reference = x.told(0, n, 2, l(31, k, 0, 0));
                due("21 R " + k, x.run(reference), 0);
                due("21 " + n + " PARAMS are the first ones, others null: R " + k, x.did(5), k < n ? 0 : -1);
            }
        }
        Counted x = new Counted();
        x.array(2);
        x.array(3);
        x.array(4);
        int set = x.told(3, 3, 0, l(22, 7, 0, 0), l(25, 7, 0, 3), l(30, 0, 0, 0), l(0, 7, 0, 5), l(7, 7, 0, 0), l(22, 0, 0, 0), l(22, 1, 0, 0),
            l(22, 2, 0, 0), l(20, 3, 0, 0), l(22, 3, 0, 0), l(20, 3, 1, 0), l(22, 3, 0, 0), l(20, 3, 2, 0), l(22, 3, 0, 0), l(6, 2, 0, 0),
            l(0, 2, 0, 99));
        int calls = x.told(3, 3, 0, l(7, 5, 2, 0), l(7, 6, 1, 0), l(7, 7, 0, 0), l(0, 5, 0, 1), l(0, 6, 0, 2), l(0, 7, 0, 3), l(21, 5, set, 5),
            l(21, 5, set, 5), l(22, 7, 0, 0), l(20, 0, 7, 0), l(22, 0, 0, 0));
        x.things(0, 0, 1, 2);
        due("21 called with the last three, twice", x.run(calls), 0);
        int[] each = {0, 1, 2, 3, 4, 3, 2};
        for (int k = 0; k < 14; k++) {
            due("21 each call begins with its own LOCALS", x.printed(k), each[k % 7]);
        }
        due("21 N 7 is the caller's own", x.printed(14), 3);
        due("21 R 7 is the caller's own", x.printed(15), 2);
    }

    /** The last LOCALS, and what is next to the last PARAM. */
    private static void promise21Last() {
        Counted x = new Counted();
        x.type(-1);
        x.thing(0);
        x.array(16);
        x.put(1, 15, 77);
        int seven = x.told(0, 0, 1, l(0, 7, 0, 42), l(31, 7, 0, 0));
        int same = x.told(0, 1, 2, l(7, 7, 0, 0), l(31, 7, 0, 0));
        int comes = x.told(0, 1, 2, l(0, 0, 0, 1), l(21, 7, seven, 0), l(22, 7, 0, 0), l(22, 0, 0, 0), l(7, 7, 0, 0), l(6, 0, 0, 0),
            l(21, 0, same, 7), l(31, 7, 0, 0));
        x.things(0, 1);
        due("21 RESULTS", x.run(comes), 0);
        due("21 a RESULT comes to N 7", x.printed(0), 42);
        due("21 to no other N", x.printed(1), 1);
        due("21 a RESULT comes to R 7", x.did(5), 1);
        int item = x.told(1, 1, 1, l(0, 7, 0, 15), l(7, 7, 0, 0), l(14, 7, 7, 7), l(31, 7, 0, 0));
        due("21 item 15", x.run(item), 0);
        due("21 item 15 comes to N 7", x.did(5), 77);
        int empties = x.told(0, 1, 2, l(7, 7, 0, 0), l(6, 7, 0, 0), l(31, 7, 0, 0));
        due("21 R 7 = null", x.run(empties), 0);
        due("22 R 7 = null", x.did(5), -1);
        int[][] onR7 = {l(24, 7, 0, 4), l(26, 7, 0, 4), l(27, 7, 0, 4), l(25, 7, 0, 4)};
        int[][] dues = {{0, 0, 0, 6}, {6, 6, 0, 6}};
        for (int k = 0; k < 4; k++) {
            for (int t = 0; t < 2; t++) {
                Counted y = new Counted();
                y.type(-1);
                y.thing(0);
                y.array(0);
                int m = y.told(1, 2, 0, l(7, 7, 1, 0), l(0, 7, 0, 5), onR7[k], l(30, 0, 0, 0));
                y.numbers(0, t == 0 ? 5 : 6);
                y.things(0, t == 0 ? 0 : 1, 0);
                due("21 " + onR7[k][0] + " of the last LOCAL", y.run(m), dues[t][k]);
            }
        }
        ofTwo("* by 0", 3, 7, 0, 0);
        ofTwo("* by 0", 3, 0, MIN, 0);
        for (int n = 0; n <= 3; n++) {
            Counted y = new Counted();
            y.array(0);
            int next = y.told(n, n, 2, l(22, n, 0, 0), l(31, n, 0, 0));
            int calls = y.told(0, 1, 2, l(0, 0, 0, 5), l(0, 1, 0, 5), l(0, 2, 0, 5), l(0, 3, 0, 5), l(7, 1, 0, 0), l(7, 2, 0, 0), l(7, 3, 0, 0),
                l(21, 0, next, 0), l(31, 0, 0, 0));
            y.things(0, 0);
            due("21 called with " + n, y.run(calls), 0);
            due("21 N " + n + " behind the last PARAM is 0", y.printed(0), 0);
            due("21 R " + n + " behind the last PARAM is null", y.did(5), -1);
        }
    }

    private static void promise21BehindTheLast() {
        for (int result = 0; result <= 2; result++) {
            Counted x = new Counted();
            x.array(0);
            int empty = x.method(1, 1, result);
            int far = x.told(1, 1, result, l(28, 0, 0, 24), l(30, 0, 0, 0));
            int near = x.told(1, 1, result, l(28, 0, 0, 2), l(30, 0, 0, 0));
            int caught = x.told(1, 1, result, l(30, 0, 0, 0));
            x.caught(caught, 0, 1, 6, 1);
            int[] all = {empty, far, near, caught};
            int calls = x.told(1, 1, 2, l(21, 0, far, 0), l(22, 0, 0, 0), l(31, 0, 0, 0));
            x.numbers(0, 7);
            x.things(0, 0);
            for (int m : all) {
                due("21 behind the last LINE it ends", x.run(m), 0);
                due("22 behind the last LINE: 0, null", x.did(5), result == 2 ? -1 : 0);
                due("22 behind the last LINE no LINE is done", x.did(3), m == empty ? 0 : 1);
            }
            due("21 called", x.run(calls), 0);
            due("21 0 comes to N a, if it has one", x.printed(0), result == 1 ? 0 : 7);
            due("21 null comes to R c, if it has one", x.did(5), result == 2 ? -1 : 0);
        }
        Counted x = new Counted();
        int m = x.method(0, 0, 0);
        for (int i = 0; i < 23; i++) {
            x.line(m, 28, 0, 0, 23);
        }
        x.line(m, 30, 3, 0, 0);
        due("21 on at the last LINE", x.run(m), 9);
        due("22 on at the last LINE", x.did(3), 2);
    }

    private static void promise21Faults() {
        Counted x = new Counted();
        x.type(-1);
        x.type(0);
        x.type(-1);
        x.field(1, false);
        x.field(1, true);
        x.thing(0);
        x.thing(1);
        x.thing(2);
        x.array(0);
        x.array(16);
        int[][] lines = {l(10, 3, 0, 0), l(11, 0, 3, 0), l(12, 3, 0, 1), l(13, 0, 3, 1), l(14, 3, 0, 0), l(15, 0, 0, 3), l(20, 3, 0, 0),
            l(29, 0, 1, 0), l(29, 0, 0, 0)};
        String[] dues = {"333333300", "555555550", "000055500", "555555555", "555544055", "555500055"};
        for (int i = 0; i < lines.length; i++) {
            int m = x.told(1, 1, 0, lines[i]);
            for (int t = -1; t < 5; t++) {
                x.things(0, t);
                due("21 FAULT of " + lines[i][0] + " on " + t, x.run(m), dues[t + 1].charAt(i) - '0');
            }
        }
        for (int op = 14; op <= 15; op++) {
            Counted y = new Counted();
            y.type(-1);
            y.array(3);
            y.array(0);
            y.thing(0);
            int m = op == 14 ? y.told(1, 1, 0, l(14, 1, 0, 0)) : y.told(1, 1, 0, l(15, 0, 0, 1));
            for (int item : new int[] {MIN, -1, 0, 2, 3, 15, 16, MAX}) {
                y.numbers(0, item);
                int[] due = {item >= 0 && item < 3 ? 0 : 4, 4, 5, 3};
                for (int k = 0; k < 4; k++) {
                    y.things(0, k == 3 ? -1 : k);
                    due("21 of several FAULTS 3, 5, 4: item " + item + " of " + k + " by " + op, y.run(m), due[k]);
                }
            }
        }
        Counted z = new Counted();
        int div = z.told(2, 0, 0, l(4, 0, 0, 1));
        int rest = z.told(2, 0, 0, l(5, 0, 0, 1));
        for (int b : new int[] {MIN, 0, MAX}) {
            z.numbers(0, b, 0);
            due("21 / by 0", z.run(div), 1);
            due("21 % by 0", z.run(rest), 1);
        }
        for (int a = 0; a <= 3; a++) {
            int thrown = z.told(0, 0, 0, l(30, a, 0, 0));
            due("21 FAULT 6 + a", z.run(thrown), 6 + a);
        }
        int size = z.told(1, 0, 0, l(9, 0, 0, 0));
        int[] sizes = {MIN, -1, 0, 16, 17, MAX};
        int[] ofSizes = {2, 2, 0, 0, FULL, FULL};
        for (int k = 0; k < 6; k++) {
            z.numbers(0, sizes[k]);
            due("21 a size of " + sizes[k], z.run(size), ofSizes[k]);
        }
    }

    /** The line, which is the third, throws and is caught: N 7 is 5 and R 7 is ARG 1 as they were. */
    private static void leavesAlone(String what, int[] line) {
        Counted x = new Counted();
        x.type(-1);
        x.field(0, false);
        x.field(0, true);
        x.type(-1);
        x.thing(1);
        x.array(2);
        x.thing(0);
        x.put(1, 0, 8);
        x.put(1, 1, 9);
        x.told(0, 0, 1, l(0, 1, 0, 4), l(4, 1, 1, 0));
        x.told(0, 0, 2, l(8, 1, 0, 0), l(4, 1, 1, 0));
        int m = x.told(1, 3, 2, l(0, 7, 0, 5), l(7, 7, 2, 0), line, l(30, 3, 0, 0), l(22, 7, 0, 0), l(31, 7, 0, 0));
        x.caught(m, 2, 3, 0, 4);
        x.numbers(0, -1);
        x.things(0, 0, 1, 2);
        due("21 caught: " + what, x.run(m), 0);
        due("21 nothing else of the LINE is done to N a: " + what, x.printed(0), 5);
        due("21 nothing else of the LINE is done to R a: " + what, x.did(5), 2);
        due("22 nothing is READ: " + what, x.did(0), 0);
        due("22 nothing is WRITTEN: " + what, x.did(1), 0);
        due("21 items are as they were: " + what, x.get(1, 0) * 10 + x.get(1, 1), 89);
        due("21 FIELDS are as they were: " + what, x.get(2, 0), 0);
    }

    private static void promise21NothingElse() {
        leavesAlone("/ by 0", l(4, 7, 7, 3));
        leavesAlone("% by 0", l(5, 7, 7, 3));
        leavesAlone("a size below 0", l(9, 7, 0, 0));
        leavesAlone("10 of null", l(10, 7, 5, 0));
        leavesAlone("10 of another kind", l(10, 7, 0, 0));
        leavesAlone("11 of another kind", l(11, 0, 7, 0));
        leavesAlone("11 of an ARRAY", l(11, 1, 7, 0));
        leavesAlone("12 of null", l(12, 7, 5, 1));
        leavesAlone("12 of another kind", l(12, 7, 0, 1));
        leavesAlone("13 of an ARRAY", l(13, 1, 7, 1));
        leavesAlone("14 of null", l(14, 7, 5, 3));
        leavesAlone("14 of an object", l(14, 7, 2, 3));
        leavesAlone("14 of no such item", l(14, 7, 1, 0));
        leavesAlone("15 of an object", l(15, 2, 3, 7));
        leavesAlone("15 of no such item", l(15, 1, 0, 7));
        leavesAlone("20 of null", l(20, 7, 5, 0));
        leavesAlone("20 of an object", l(20, 7, 2, 0));
        leavesAlone("29 of an ARRAY", l(29, 1, 0, 0));
        leavesAlone("21 of one that ends by a FAULT, of a number", l(21, 7, 0, 7));
        leavesAlone("21 of one that ends by a FAULT, of a reference", l(21, 7, 1, 7));
        Counted x = new Counted();
        x.type(-1);
        x.shared(false);
        int thrown = x.told(1, 0, 0, l(17, 0, 0, 0), l(22, 0, 0, 0), l(8, 0, 0, 0), l(30, 0, 0, 0), l(22, 0, 0, 0));
        x.numbers(0, 8);
        due("21 the RUN ends by it", x.run(thrown), 6);
        due("21 what was done before the FAULT stays: a STATIC", x.stat(0), 8);
        due("21 what was done before the FAULT stays: printed", x.count(5), 1);
        due("21 what was done before the FAULT stays: THINGS", x.count(4), 1);
    }

    private static void promise21Catches() {
        Counted x = new Counted();
        int m = x.told(1, 0, 1, l(28, 0, 0, 2), l(31, 1, 0, 0), l(30, 1, 0, 0), l(0, 1, 0, 33), l(28, 0, 0, 1), l(0, 1, 0, 44), l(28, 0, 0, 1));
        due("21 no CATCH", x.run(m), 7);
        x.caught(m, 0, 2, 0, 5);
        due("21 to - 1 is the last", x.run(m), 7);
        x.caught(m, 3, 24, 0, 5);
        due("21 from is the first", x.run(m), 7);
        x.caught(m, 2, 3, 6, 5);
        due("21 another FAULT", x.run(m), 7);
        x.caught(m, 2, 3, 7, 3);
        due("21 of this FAULT", x.run(m), 0);
        due("22 on at its LINE", x.did(5), 33);
        for (int any = 0; any < 2; any++) {
            Counted y = new Counted();
            int n = y.told(0, 0, 1, l(30, 0, 0, 0), l(0, 0, 0, 1), l(31, 0, 0, 0), l(0, 0, 0, 2), l(31, 0, 0, 0));
            y.caught(n, 0, 1, any == 0 ? 0 : 6, 1);
            y.caught(n, 0, 1, any == 0 ? 6 : 0, 3);
            due("21 two have it", y.run(n), 0);
            due("22 the first CATCH", y.did(5), 1);
        }
        for (int fault = 1; fault <= 9; fault++) {
            Counted y = new Counted();
            y.type(-1);
            y.array(0);
            int[][] lines = {l(4, 0, 0, 1), l(9, 3, 0, 0), l(20, 0, 3, 0), l(14, 0, 0, 0), l(29, 0, 0, 0), l(30, 0, 0, 0), l(30, 1, 0, 0),
                l(30, 2, 0, 0), l(30, 3, 0, 0)};
            y.numbers(0, -1);
            y.things(0, 0);
            int own = y.told(1, 1, 0, lines[fault - 1]);
            y.caught(own, 0, 1, fault, 24);
            int any = y.told(1, 1, 0, lines[fault - 1]);
            y.caught(any, 0, 24, 0, 1);
            int other = y.told(1, 1, 0, lines[fault - 1]);
            y.caught(other, 0, 1, fault % 9 + 1, 1);
            int calls = y.told(1, 1, 0, l(21, 0, other, 0));
            y.caught(calls, 0, 1, fault, 1);
            due("21 of this FAULT " + fault, y.run(own), 0);
            due("21 of any (0): " + fault, y.run(any), 0);
            due("21 of another than " + fault, y.run(other), fault);
            due("21 thrown at the LINE that called: " + fault, y.run(calls), 0);
            due("22 thrown at the LINE that called: " + fault, y.did(3), 2);
        }
        Counted z = new Counted();
        int thrower = z.told(0, 0, 0, l(0, 0, 0, 0), l(30, 2, 0, 0));
        int calls = z.told(0, 0, 0, l(21, 0, thrower, 0), l(0, 0, 0, 0));
        z.caught(calls, 1, 2, 0, 24);
        int again = z.told(0, 0, 0, l(30, 0, 0, 0), l(30, 1, 0, 0));
        z.caught(again, 0, 2, 6, 1);
        due("21 a CATCH is of the METHOD's own LINES", z.run(calls), 8);
        due("21 thrown where a CATCH goes on", z.run(again), 7);
        Counted w = fullProgram();
        due("21 four CATCHES, none of which is needed", w.run(9), 0);
        Counted v = new Counted();
        int four = v.told(0, 0, 0, l(30, 3, 0, 0));
        int next = v.told(0, 0, 0, l(30, 3, 0, 0));
        for (int k = 0; k < 4; k++) {
            v.caught(four, 0, 1, 5 + k, 24);
        }
        v.caught(next, 0, 1, 9, 24);
        v.analyse();
        due("21 another METHOD's CATCH is not behind the fourth", v.run(four), 9);
        due("17 another METHOD's CATCH is not behind the fourth", v.effects(four, 3), 512);
        due("21 its own", v.run(next), 0);
        for (int more = 2; more < 10; more++) {
            v.told(0, 0, 0, l(30, 3, 0, 0));
        }
        for (int k = 0; k < 4; k++) {
            v.caught(9, 0, 1, k == 3 ? 9 : 5 + k, 24);
        }
        due("21 the fourth CATCH of the tenth METHOD", v.run(9), 0);
    }

    private static void promise21Things() {
        for (int op = 8; op <= 9; op++) {
            Counted x = new Counted();
            x.type(-1);
            int make = x.told(1, 0, 0, l(0, 1, 0, 1), l(24, 0, 2, 5), l(op, 0, op == 8 ? 0 : 7, 0), l(2, 0, 0, 1), l(28, 0, 0, 1));
            int calls = x.told(1, 0, 0, l(8, 0, 0, 0), l(21, 0, make, 0));
            x.numbers(0, 61);
            due("21 61 THINGS", x.run(make), FULL);
            due("21 none is left of a RUN that was FULL", x.count(4), 0);
            x.numbers(0, 60);
            due("21 one and 60 by a call", x.run(calls), FULL);
            due("21 60 THINGS", x.run(make), 0);
            due("22 60 THINGS", x.did(4), 60);
            due("26 60 THINGS", x.count(4), 60);
            x.numbers(0, 1);
            due("21 there are 60", x.run(make), FULL);
            x.numbers(0, 0);
            due("21 none more", x.run(make), 0);
            due("22 none more", x.did(4), 0);
        }
        Counted x = fullWorld();
        for (int n : new int[] {0, 16, 17, MAX}) {
            x.numbers(0, n);
            due("21 a 61st", x.run(0), FULL);
        }
        due("21 a 61st", x.run(1), FULL);
        for (int n : new int[] {-1, MIN}) {
            x.numbers(0, n);
            due("21 FAULT 2 is ahead of the bounds of an ARRAY", x.run(0), 2);
        }
        Counted y = new Counted();
        int ends = y.told(0, 0, 0, l(0, 0, 0, 17), l(9, 0, 0, 0));
        y.caught(ends, 0, 24, 0, 24);
        due("21 FULL is no FAULT: no CATCH has it", y.run(ends), FULL);
    }

    /** Calls itself, N 0 times more within one another, then does the last line. */
    private static int deep(Counted x, int op) {
        int m = x.count(3);
        return x.told(1, 0, 0, l(24, 0, 1, 4), l(0, 1, 0, 1), l(2, 0, 0, 1), l(21, 0, m, 0), l(op, 0, 0, 24));
    }

    private static void promise21Depth() {
        Counted x = new Counted();
        int ends = deep(x, 28);
        int throwing = deep(x, 30);
        int calls = x.told(1, 0, 0, l(21, 0, ends, 0));
        x.numbers(0, 11);
        due("21 12 METHODS within one another", x.run(ends), 0);
        due("22 12 METHODS within one another", x.did(3), 11 * 5 + 2);
        due("21 a FAULT through 12", x.run(throwing), 6);
        due("21 the first counts", x.run(calls), FULL);
        x.numbers(0, 12);
        due("21 13 METHODS within one another", x.run(ends), FULL);
        due("21 13 METHODS within one another", x.run(throwing), FULL);
        x.numbers(0, 10);
        due("21 12 with the first", x.run(calls), 0);
        Counted y = new Counted();
        int one = y.count(3);
        y.told(1, 0, 0, l(24, 0, 1, 4), l(0, 1, 0, 1), l(2, 0, 0, 1), l(28, 0, 0, 5), l(28, 0, 0, 24));
        int two = y.told(1, 0, 0, l(24, 0, 1, 4), l(0, 1, 0, 1), l(2, 0, 0, 1), l(21, 0, one, 0));
        y.line(one, 21, 0, two, 0);
        y.numbers(0, 11);
        due("21 12 by turns", y.run(one), 0);
        due("21 12 by turns", y.run(two), 0);
        y.numbers(0, 12);
        due("21 13 by turns", y.run(one), FULL);
        due("21 13 by turns", y.run(two), FULL);
        Counted z = new Counted();
        int empty = z.method(0, 0, 0);
        int thrower = z.told(0, 0, 0, l(30, 0, 0, 0));
        int many = z.told(1, 0, 0, l(0, 1, 0, 1), l(24, 0, 2, 5), l(21, 7, empty, 0), l(2, 0, 0, 1), l(28, 0, 0, 1));
        int caught = z.told(1, 0, 0, l(0, 1, 0, 1), l(24, 0, 2, 5), l(2, 0, 0, 1), l(21, 7, thrower, 0), l(28, 0, 0, 1));
        z.caught(caught, 3, 4, 0, 4);
        z.numbers(0, 15);
        due("21 one behind another is not within", z.run(many), 0);
        due("21 one that ended by a FAULT is not within any more", z.run(caught), 0);
    }

    /** Does 2 + 3 * N 0 LINES. */
    private static int counter(Counted x) {
        return x.told(1, 0, 0, l(0, 1, 0, 1), l(24, 0, 2, 4), l(2, 0, 0, 1), l(28, 0, 0, 1));
    }

    private static void promise21Lines() {
        Counted x = new Counted();
        int m = counter(x);
        x.numbers(0, 166);
        for (int again = 0; again < 2; again++) {
            due("21 500 LINES", x.run(m), 0);
            due("22 500 LINES", x.did(3), 500);
        }
        x.numbers(0, 167);
        due("21 503 LINES", x.run(m), FULL);
        int[] lasts = {0, 22, 31, 30};
        for (int last : lasts) {
            Counted y = new Counted();
            int count = counter(y);
            int just = y.told(1, 0, 0, l(0, 7, 0, 0), l(21, 0, count, 0), l(last, 0, 0, 0));
            int over = y.told(1, 0, 0, l(0, 7, 0, 0), l(0, 7, 0, 0), l(21, 0, count, 0), l(last, 0, 0, 0));
            y.numbers(0, 165);
            due("21 the 500th is " + last, y.run(just), last == 30 ? 6 : 0);
            due("22 the 500th is " + last, y.did(3), 500);
            due("21 the 501st is " + last, y.run(over), FULL);
            due("22 the one before", y.did(3), 500);
        }
        Counted z = new Counted();
        int count = counter(z);
        int within = z.told(1, 0, 0, l(21, 0, count, 0));
        int just = z.told(1, 0, 0, l(0, 7, 0, 0), l(21, 0, within, 0));
        int over = z.told(1, 0, 0, l(0, 7, 0, 0), l(0, 7, 0, 0), l(21, 0, within, 0));
        z.numbers(0, 165);
        due("21 500, those that were called and those that call, too", z.run(just), 0);
        due("22 500, those that were called and those that call, too", z.did(3), 500);
        due("21 501, those that were called and those that call, too", z.run(over), FULL);
        int caught = z.told(1, 0, 0, l(21, 0, count, 0), l(30, 0, 0, 0), l(28, 0, 0, 24));
        z.caught(caught, 1, 2, 6, 2);
        due("21 a LINE that throws is done, too", z.run(caught), 0);
        due("22 a LINE that throws is done, too", z.did(3), 500);
        Counted w = new Counted();
        int far = counter(w);
        int threw = w.told(1, 0, 0, l(21, 0, far, 0), l(30, 0, 0, 0), l(0, 7, 0, 0), l(28, 0, 0, 24));
        w.caught(threw, 1, 2, 6, 2);
        w.numbers(0, 165);
        due("21 a LINE that throws counts: 501", w.run(threw), FULL);
        Counted v = new Counted();
        int empty = v.method(0, 0, 0);
        int many = v.told(1, 0, 0, l(0, 1, 0, 1), l(24, 0, 2, 24), l(2, 0, 0, 1));
        for (int i = 3; i < 23; i++) {
            v.line(many, 21, 7, empty, 0);
        }
        v.line(many, 28, 0, 0, 1);
        v.numbers(0, 21);
        due("21 420 METHODS without LINES", v.run(many), 0);
        due("22 420 METHODS without LINES: the LINES that called alone", v.did(3), 2 + 21 * 23);
        v.numbers(0, 22);
        due("21 508 LINES", v.run(many), FULL);
        int calls24 = v.method(0, 0, 0);
        int calls20 = v.method(0, 0, 0);
        for (int i = 0; i < 24; i++) {
            v.line(calls24, 21, 0, empty, 0);
        }
        for (int i = 0; i < 20; i++) {
            v.line(calls20, 21, 0, calls24, 0);
        }
        due("21 500 LINES, all of which call", v.run(calls20), 0);
        due("22 500 LINES, all of which call", v.did(3), 500);
        v.line(calls20, 0, 0, 0, 0);
        due("21 501 LINES, 500 of which call", v.run(calls20), FULL);
    }

    private static void promise21FaultLines() {
        Counted x = new Counted();
        int loop = x.told(1, 0, 0, l(0, 1, 0, 1), l(24, 0, 2, 4), l(2, 0, 0, 1), l(30, 0, 0, 0));
        x.caught(loop, 3, 4, 6, 1);
        x.numbers(0, 40);
        for (int again = 0; again < 2; again++) {
            due("21 FAULTS come to 40 LINES", x.run(loop), 0);
        }
        x.numbers(0, 41);
        due("21 FAULTS come to 41 LINES", x.run(loop), FULL);
        int thrower = x.told(0, 0, 0, l(30, 1, 0, 0));
        int passes = x.told(0, 0, 0, l(21, 0, thrower, 0));
        int twice = x.told(0, 0, 0, l(21, 0, passes, 0));
        int ends = x.told(1, 0, 0, l(21, 0, loop, 0), l(30, 3, 0, 0));
        int calls = x.told(1, 0, 0, l(21, 0, loop, 0), l(21, 0, passes, 0));
        int four = x.told(1, 0, 0, l(0, 1, 0, 1), l(24, 0, 2, 4), l(2, 0, 0, 1), l(21, 7, twice, 0));
        x.caught(four, 3, 4, 7, 1);
        int calm = x.told(1, 0, 0, l(21, 0, loop, 0), l(0, 0, 0, 0));
        x.numbers(0, 39);
        due("21 the 40th, by which the RUN ends", x.run(ends), 9);
        x.numbers(0, 40);
        due("21 the 41st, by which the RUN would end", x.run(ends), FULL);
        due("21 40, and no more", x.run(calm), 0);
        x.numbers(0, 37);
        due("21 37 and three within one another", x.run(calls), 7);
        x.numbers(0, 38);
        due("21 38 and three within one another: a LINE that called counts, too", x.run(calls), FULL);
        x.numbers(0, 10);
        due("21 10 times at four LINES", x.run(four), 0);
        x.numbers(0, 11);
        due("21 11 times at four LINES", x.run(four), FULL);
    }

    /** Methods 0 to 4 do something to all of the WORLD and meet a bound then; method 5 does the same and ends. */
    private static Counted beforeBounds() {
        Counted x = new Counted();
        x.type(-1);
        x.field(0, false);
        x.field(0, true);
        x.shared(false);
        x.shared(true);
        x.thing(0);
        x.array(2);
        x.put(0, 0, 5);
        x.put(0, 1, 1);
        x.put(1, 1, 6);
        x.set(0, 7);
        x.set(1, 0);
        int[][] bounds = {l(28, 0, 0, 8), l(9, 0, 1, 0), l(21, 0, 2, 0), l(8, 3, 0, 0), l(30, 0, 0, 0), l(31, 0, 0, 0)};
        for (int[] bound : bounds) {
            x.told(3, 2, 1, l(11, 0, 0, 0), l(8, 3, 0, 0), l(13, 0, 3, 1), l(15, 1, 2, 0), l(17, 0, 0, 0), l(19, 1, 3, 0), l(22, 0, 0, 0),
                l(28, 0, 0, 8), bound, l(28, 0, 0, 8));
        }
        x.caught(4, 8, 9, 0, 8);
        x.numbers(0, 3, 17, 0);
        x.things(0, 0, 1);
        x.analyse();
        x.run(5);
        x.put(0, 0, 5);
        x.put(1, 0, 4);
        x.put(0, 1, 0);
        x.set(0, 7);
        x.set(1, 1);
        return x;
    }

    private static void promise21Full() {
        String[] bounds = {"500 LINES", "16 items", "12 METHODS", "60 THINGS", "FAULTS at 40 LINES"};
        for (int m = 0; m < 5; m++) {
            int method = m;
            refused("21 FULL by " + bounds[m] + ": THE WORLD is as it was", BoundariesTest::beforeBounds, x -> x.run(method), FULL);
            refused("24 FULL by " + bounds[m] + ": THE WORLD is as it was", BoundariesTest::beforeBounds, x -> x.both(method, 5), FULL);
        }
        Counted x = beforeBounds();
        due("21 without a bound", x.run(5), 0);
        due("21 without a bound a FIELD is another", x.get(0, 0), 3);
        due("21 without a bound an item is another", x.get(1, 0), 3);
        due("21 without a bound a STATIC is another", x.stat(0), 3);
        due("21 without a bound a THING is made", x.stat(1), 3);
        due("21 without a bound it is printed", x.count(5), 2);
    }

    private static void promise22() {
        Counted x = new Counted();
        for (int what : new int[] {-1, 6, MIN, MAX}) {
            due("22 what " + what, x.did(what), OUTSIDE);
            due("22 what " + what, some().did(what), OUTSIDE);
        }
        x.type(-1);
        x.shared(false);
        int endless = x.told(0, 0, 1, l(16, 0, 0, 0), l(17, 0, 0, 0), l(22, 0, 0, 0), l(8, 0, 0, 0), l(28, 0, 0, 4));
        int ends = x.told(0, 0, 1, l(16, 0, 0, 0), l(17, 0, 0, 0), l(22, 0, 0, 0), l(8, 0, 0, 0), l(0, 0, 0, 9), l(31, 0, 0, 0));
        int other = x.told(0, 0, 0, l(0, 0, 0, 0), l(30, 0, 0, 0));
        for (int what = 0; what < 6; what++) {
            due("22 0 without a RUN", x.did(what), 0);
        }
        due("21 FULL", x.run(endless), FULL);
        due("21 no METHOD", x.run(3), UNKNOWN);
        due("24 no RUN of which did() tells", x.both(ends, other), 1);
        for (int what = 0; what < 6; what++) {
            due("22 0 with a FULL one alone", x.did(what), 0);
        }
        int[] dues = {1 << 16, 1 << 16, 1, 6, 1, 9};
        due("21 ends", x.run(ends), 0);
        due("21 FULL", x.run(endless), FULL);
        due("21 no METHOD", x.run(3), UNKNOWN);
        due("24 no RUN of which did() tells", x.both(other, other), 1);
        for (int what = 0; what < 6; what++) {
            due("22 the latest RUN that was not FULL", x.did(what), dues[what]);
        }
        due("21 ends by a FAULT", x.run(other), 6);
        int[] then = {0, 0, 0, 2, 0, 0};
        for (int what = 0; what < 6; what++) {
            due("22 the latest RUN alone", x.did(what), then[what]);
        }
        Counted y = new Counted();
        int prints = y.told(1, 0, 0, l(0, 1, 0, 1), l(22, 0, 0, 0), l(2, 0, 0, 1), l(23, 2, 0, 1));
        for (int n : new int[] {150, 60, 1}) {
            y.numbers(0, n);
            due("21 prints", y.run(prints), 0);
            due("22 all are counted, also past 200", y.did(2), n);
        }
        y.numbers(0, 166);
        due("21 prints", y.run(prints), 0);
        due("22 all that one RUN may", y.did(2), 166);
    }

    private static void promise22Places() {
        Counted x = new Counted();
        x.type(-1);
        for (int f = 0; f < 16; f++) {
            x.field(0, f == 15);
        }
        for (int s = 0; s < 8; s++) {
            x.shared(s == 7);
        }
        x.thing(0);
        x.array(1);
        int reads = x.told(0, 2, 0, l(10, 1, 0, 0), l(12, 2, 0, 15), l(14, 1, 1, 0), l(16, 1, 0, 0), l(18, 2, 7, 0));
        int writes = x.told(0, 2, 0, l(11, 0, 0, 0), l(13, 0, 0, 15), l(15, 1, 0, 0), l(17, 0, 0, 0), l(19, 7, 0, 0));
        int made = x.told(0, 0, 2, l(0, 1, 0, 1), l(9, 1, 1, 0), l(14, 2, 1, 0), l(15, 1, 0, 2), l(8, 0, 0, 0), l(10, 0, 0, 0), l(11, 0, 0, 0),
            l(13, 0, 1, 15), l(12, 1, 0, 15), l(14, 2, 1, 0), l(31, 0, 0, 0));
        int met = x.told(0, 0, 0, l(8, 0, 0, 0), l(19, 7, 0, 0), l(18, 1, 7, 0), l(11, 1, 0, 0), l(10, 0, 1, 14));
        int size = x.told(0, 2, 0, l(20, 0, 1, 0), l(29, 0, 0, 0), l(27, 0, 0, 3), l(26, 0, 1, 4));
        int none = x.told(0, 2, 0, l(10, 0, 1, 0));
        int before = x.told(0, 2, 0, l(10, 0, 0, 14), l(11, 1, 0, 0));
        x.things(0, 0, 1);
        int all = 1 | 1 << 15 | 1 << 16 | 1 << 23 | ITEMS;
        int[] methods = {reads, writes, made, met, size, none, before};
        int[] faults = {0, 0, 0, 0, 0, 5, 5};
        int[] read = {all, 0, 0, 1 << 23, 0, 0, 1 << 14};
        int[] wrote = {0, all, 0, 1 << 23, 0, 0, 0};
        String[] what = {"the first and last of all", "the first and last of all", "THINGS that it made are none that were there",
            "a STATIC always, what it made never", "how many items and of which CLASS is no PLACE", "what was not done", "what was done before"};
        for (int i = 0; i < methods.length; i++) {
            due("21 " + what[i], x.run(methods[i]), faults[i]);
            due("22 READ: " + what[i], x.did(0), read[i]);
            due("22 WROTE: " + what[i], x.did(1), wrote[i]);
        }
        due("21 makes one", x.run(made), 0);
        int last = x.did(5);
        x.things(0, last, last - 1);
        due("14 the last one is an object", x.kind(last), 0);
        due("21 what an earlier RUN made", x.run(reads), 0);
        due("22 was there", x.did(0), all);
    }

    private static void promise22Results() {
        for (int v : new int[] {MIN, -1, 0, MAX}) {
            for (int result = 0; result <= 2; result++) {
                Counted x = new Counted();
                x.array(0);
                int m = x.told(1, 1, result, l(31, 0, 0, 0));
                int thrown = x.told(1, 1, result, l(21, 0, m, 0), l(30, 0, 0, 0));
                x.numbers(0, v);
                x.things(0, v == MAX ? 0 : -1);
                due("21 ends", x.run(m), 0);
                int reference = v == MAX ? 0 : -1;
                due("22 RESULT " + result + " of " + v, x.did(5), result == 0 ? 0 : result == 1 ? v : reference);
                due("21 ends by a FAULT", x.run(thrown), 6);
                due("22 0: a FAULT", x.did(5), 0);
            }
        }
        Counted x = new Counted();
        x.type(-1);
        for (int t = 0; t < 59; t++) {
            x.thing(0);
        }
        int makes = x.told(0, 0, 2, l(8, 0, 0, 0), l(31, 0, 0, 0));
        due("21 makes the last", x.run(makes), 0);
        due("22 RESULT: the 60th THING", x.did(5), 59);
        due("22 one THING was made", x.did(4), 1);
    }

    private static void promise23() {
        Counted x = new Counted();
        due("23 1 without a RUN", x.foreseen(), 1);
        x.shared(false);
        int writes = x.told(0, 0, 0, l(17, 0, 0, 0), l(22, 0, 0, 0), l(30, 0, 0, 0));
        due("21 nothing is ANALYSED", x.run(writes), 6);
        due("23 1 if nothing was ANALYSED when it began", x.foreseen(), 1);
        x.analyse();
        due("23 nor is it told anew", x.foreseen(), 1);
        due("21 ANALYSED", x.run(writes), 6);
        due("23 FORESEEN", x.foreseen(), 1);
        // what was found before the program was told more of must not be held against it
        Counted y = new Counted();
        y.type(-1);
        y.field(0, false);
        y.shared(true);
        y.thing(0);
        int m = y.method(1, 3, 0);
        due("16 PURE", y.analyse(), 1);
        int[][] lines = {l(11, 0, 0, 0), l(10, 0, 1, 0), l(18, 3, 0, 0), l(11, 3, 0, 0), l(22, 0, 0, 0), l(30, 0, 0, 0)};
        y.set(0, 0);
        y.things(0, 0, 0, 0);
        for (int i = 0; i < lines.length; i++) {
            due("6 one LINE more", y.line(m, lines[i][0], lines[i][1], lines[i][2], lines[i][3]), i);
            due("21 nothing is ANALYSED any more", y.run(m), i == 5 ? 6 : 0);
            due("23 1 if nothing was ANALYSED when it began", y.foreseen(), 1);
        }
        y.analyse();
        for (int k = 0; k < 3; k++) {
            y.things(0, k == 0 ? -1 : 0, k == 1 ? -1 : 0, k == 2 ? -1 : 0);
            due("21 with null", y.run(m), k < 2 ? 3 : 6);
            due("23 its FAULT, too", y.foreseen(), 1);
        }
        // the same thing as several args: by way of the one that the analysis found
        for (int k = 0; k < 3; k++) {
            Counted z = new Counted();
            z.type(-1);
            z.field(0, false);
            z.thing(0);
            z.thing(0);
            int by = z.told(0, 3, 0, l(10, 0, k, 0), l(11, k, 0, 0));
            int called = z.told(0, 3, 0, l(7, 5, k, 0), l(8, 6, 0, 0), l(8, 7, 0, 0), l(21, 0, 0, 5));
            z.analyse();
            for (int given = 0; given < 8; given++) {
                z.things(0, given & 1, given >> 1 & 1, given >> 2 & 1);
                due("21 by way of PARAM " + k, z.run(by), 0);
                due("22 by way of PARAM " + k, z.did(0) * 10 + z.did(1), 11);
                due("23 by way of PARAM " + k, z.foreseen(), 1);
                due("21 by a call", z.run(called), 0);
                due("23 by a call", z.foreseen(), 1);
            }
        }
        Counted w = new Counted();
        w.type(-1);
        w.field(0, false);
        w.thing(0);
        w.thing(0);
        int first = w.told(0, 1, 0, l(10, 0, 0, 0), l(11, 0, 0, 0));
        int second = w.told(0, 2, 0, l(21, 0, first, 1));
        int deeper = w.told(0, 3, 0, l(21, 0, second, 1));
        w.analyse();
        w.things(0, 1, 0, 1);
        due("21 what is PARAM 1 is PARAM 0 of what it calls", w.run(second), 0);
        due("23 what is PARAM 1 is PARAM 0 of what it calls", w.foreseen(), 1);
        w.things(0, 1, 1, 0);
        due("21 what is PARAM 2 is PARAM 0 two calls deeper", w.run(deeper), 0);
        due("23 what is PARAM 2 is PARAM 0 two calls deeper", w.foreseen(), 1);
    }

    // ---------------------------------------------------------------- promise 24: both orders

    private static void promise24Refused() {
        due("24 no METHODS", new Counted().both(0, 0), UNKNOWN);
        for (int m : new int[] {-1, 2, 10, MIN, MAX}) {
            refused("24 no first METHOD " + m, BoundariesTest::some, x -> x.both(m, 0), UNKNOWN);
            refused("24 no second METHOD " + m, BoundariesTest::some, x -> x.both(1, m), UNKNOWN);
            refused("24 neither METHOD " + m, BoundariesTest::some, x -> x.both(m, m), UNKNOWN);
        }
        for (int m : new int[] {-1, 6, MIN, MAX}) {
            refused("24 UNKNOWN counts ahead of FULL", BoundariesTest::beforeBounds, x -> x.both(0, m), UNKNOWN);
            refused("24 UNKNOWN counts ahead of FULL", BoundariesTest::beforeBounds, x -> x.both(m, 0), UNKNOWN);
        }
        Supplier<Counted> otherwise = () -> {
            Counted x = beforeBounds();
            x.numbers(1, 4, 0, 1);
            x.things(1, 0, 1);
            return x;
        };
        refused("24 THE WORLD is as it was: ends are alike", BoundariesTest::beforeBounds, x -> x.both(5, 5), 1);
        refused("24 THE WORLD is as it was: ends are not alike", otherwise, x -> x.both(5, 5), 0);
        due("24 METHODS without LINES", fullProgram().both(0, 8), 1);
        due("24 the tenth METHOD", fullProgram().both(9, 9), 1);
        due("24 no eleventh", fullProgram().both(9, 10), UNKNOWN);
        due("24 no eleventh", fullProgram().both(10, 9), UNKNOWN);
    }

    private static void promise24Full() {
        Counted x = new Counted();
        x.type(-1);
        x.shared(false);
        // goes on for ever unless STATIC 0 is 0 or 1: whichever RUN comes second in whichever order
        int on0 = x.told(0, 0, 0, l(16, 0, 0, 0), l(24, 0, 7, 1));
        int on1 = x.told(0, 0, 0, l(0, 1, 0, 1), l(16, 0, 0, 0), l(24, 0, 1, 2));
        int set1 = x.told(0, 0, 0, l(0, 0, 0, 1), l(17, 0, 0, 0));
        int quiet = x.told(0, 0, 0, l(0, 0, 0, 0));
        due("24 the first is FULL in both orders", x.both(on0, quiet), FULL);
        due("24 the second is FULL in both orders", x.both(quiet, on0), FULL);
        due("24 the first is FULL if it comes first", x.both(on0, set1), FULL);
        due("24 the first is FULL if it comes second", x.both(on1, set1), FULL);
        due("24 the second is FULL if it comes second", x.both(set1, on1), FULL);
        due("24 the second is FULL if it comes first", x.both(set1, on0), FULL);
        due("24 neither is FULL", x.both(on1, quiet), 1);
        due("13 as it was", x.stat(0), 0);
        Counted y = new Counted();
        int count = counter(y);
        int deep = deep(y, 28);
        int loop = y.told(1, 0, 0, l(0, 1, 0, 1), l(24, 0, 2, 4), l(2, 0, 0, 1), l(30, 0, 0, 0));
        y.caught(loop, 3, 4, 6, 1);
        int[] methods = {count, deep, loop};
        int[] last = {166, 11, 40};
        for (int k = 0; k < 3; k++) {
            y.numbers(0, last[k]);
            y.numbers(1, last[k]);
            due("24 bounds of LINES, METHODS, FAULTS are each RUN's own", y.both(methods[k], methods[k]), 1);
            y.numbers(1, last[k] + 1);
            due("24 the second is FULL", y.both(methods[k], methods[k]), FULL);
            y.numbers(0, last[k] + 1);
            y.numbers(1, last[k]);
            due("24 the first is FULL", y.both(methods[k], methods[k]), FULL);
        }
        Counted z = new Counted();
        z.type(-1);
        int make = z.told(0, 0, 0, l(8, 0, 0, 0));
        for (int t = 0; t < 58; t++) {
            z.thing(0);
        }
        due("24 60 THINGS with those of both RUNS", z.both(make, make), 1);
        due("24 none of them is left", z.thing(0), 58);
        due("24 61 THINGS with those of both RUNS", z.both(make, make), FULL);
        due("24 none of them is left", z.count(4), 59);
    }

    private static void promise24Ends() {
        Counted x = new Counted();
        x.shared(false);
        int set = x.told(0, 0, 0, l(0, 0, 0, 1), l(17, 0, 0, 0));
        int faults = x.told(0, 0, 0, l(16, 0, 0, 0), l(24, 0, 7, 3), l(30, 0, 0, 0), l(30, 1, 0, 0));
        int throwing = x.told(0, 0, 1, l(16, 0, 0, 0), l(24, 0, 7, 3), l(30, 0, 0, 0));
        int tells = x.told(0, 0, 1, l(16, 0, 0, 0), l(31, 0, 0, 0));
        int none = x.told(0, 0, 0, l(16, 0, 0, 0), l(31, 0, 0, 0));
        int always = x.told(0, 0, 1, l(16, 0, 0, 0), l(30, 3, 0, 0));
        for (int second = 0; second < 2; second++) {
            int[][] pairs = {{set, faults}, {set, throwing}, {set, tells}, {set, none}, {set, always}};
            int[] dues = {0, 0, 0, 1, 1};
            String[] what = {"another FAULT", "a FAULT or a RESULT of 0", "another RESULT", "no RESULT", "the same FAULT"};
            for (int k = 0; k < 5; k++) {
                int one = pairs[k][second];
                int two = pairs[k][1 - second];
                due("24 " + what[k] + ", of METHOD " + (1 - second), x.both(one, two), dues[k]);
            }
        }
        x.set(0, 1);
        due("24 alike if nothing becomes another", x.both(set, faults), 1);
        due("24 alike if nothing becomes another", x.both(tells, set), 1);
        Counted y = new Counted();
        y.array(0);
        int given = y.told(1, 1, 2, l(31, 0, 0, 0));
        y.things(0, 0);
        y.things(1, -1);
        due("24 RESULTS are each METHOD's: the first ARGS go with the first, the second with the second", y.both(given, given), 1);
        Counted z = new Counted();
        z.shared(false);
        int adds = z.told(1, 0, 0, l(16, 1, 0, 0), l(1, 1, 1, 0), l(17, 0, 1, 0));
        int multiplies = z.told(1, 0, 0, l(16, 1, 0, 0), l(3, 1, 1, 0), l(17, 0, 1, 0));
        z.numbers(0, MAX);
        z.numbers(1, MIN);
        z.set(0, 1);
        due("24 sums wrap, in any order", z.both(adds, adds), 1);
        due("24 products wrap, in any order", z.both(multiplies, multiplies), 1);
        due("24 (1 + MAX) * MIN is 0, 1 * MIN + MAX is -1", z.both(adds, multiplies), 0);
        int tellsN = z.told(1, 0, 1, l(16, 1, 0, 0), l(31, 1, 0, 0));
        int[][] were = {{MAX, 1}, {59, 1}, {5, 1}, {-2, 1}, {MIN, -1}};
        for (int[] w : were) {
            z.set(0, w[0]);
            z.numbers(0, 0);
            z.numbers(1, w[1]);
            due("24 a number is no THING: RESULTS " + w[0] + " and one more", z.both(tellsN, adds), 0);
            z.numbers(1, 0);
            due("24 a number is no THING: the same RESULTS", z.both(tellsN, adds), 1);
        }
    }

    private static void promise24Printed() {
        int[] before = {0, 198, 199, 200, 201};
        int[] dues = {0, 0, 0, 1, 1};
        for (int k = 0; k < before.length; k++) {
            Counted x = new Counted();
            int prints = x.told(1, 0, 0, l(0, 1, 0, 1), l(24, 0, 2, 5), l(22, 0, 0, 0), l(2, 0, 0, 1), l(28, 0, 0, 1));
            x.numbers(0, 100);
            for (int left = before[k]; left > 0; left -= 100) {
                x.numbers(0, Math.min(left, 100));
                due("21 prints", x.run(prints), 0);
            }
            due("26 printed ahead", x.count(5), before[k]);
            int says = x.told(1, 0, 0, l(22, 0, 0, 0));
            x.numbers(0, 7);
            x.numbers(1, 7);
            due("24 the same number twice", x.both(says, says), 1);
            x.numbers(1, 8);
            due("24 in another order, behind " + before[k] + " (past 200 they are counted alone)", x.both(says, says), dues[k]);
            due("26 printed is as it was", x.count(5), before[k]);
            x.shared(false);
            int sets = x.told(0, 0, 0, l(0, 0, 0, 1), l(17, 0, 0, 0));
            int may = x.told(0, 0, 0, l(16, 0, 0, 0), l(24, 0, 7, 3), l(22, 7, 0, 0));
            due("24 another number of numbers, behind " + before[k], x.both(sets, may), 0);
            due("24 another number of numbers, behind " + before[k], x.both(may, sets), 0);
            int same = x.told(0, 0, 0, l(16, 0, 0, 0), l(24, 0, 7, 3), l(22, 7, 0, 0), l(22, 0, 0, 0), l(28, 0, 0, 24));
            due("24 more numbers, behind " + before[k], x.both(sets, same), 0);
        }
        Counted y = new Counted();
        int says = y.told(2, 0, 0, l(22, 0, 0, 0), l(22, 1, 0, 0));
        y.numbers(0, 5, 5);
        y.numbers(1, 5, 5);
        due("24 all alike", y.both(says, says), 1);
        y.numbers(1, 5, 6);
        due("24 the last one in the one order, the second in the other", y.both(says, says), 0);
        Counted z = new Counted();
        z.shared(false);
        int tells = z.told(0, 0, 0, l(16, 0, 0, 0), l(22, 0, 0, 0));
        int sets = z.told(0, 0, 0, l(0, 0, 0, 1), l(17, 0, 0, 0));
        due("24 the first number alone is another", z.both(tells, sets), 0);
        due("24 the first number alone is another", z.both(sets, tells), 0);
        z.set(0, 1);
        due("24 the first number is the same", z.both(tells, sets), 1);
        Counted w = new Counted();
        int forever = w.told(1, 0, 0, l(22, 0, 0, 0), l(28, 0, 0, 0));
        int once = w.told(0, 0, 0, l(22, 0, 0, 0));
        int never = w.told(0, 0, 0, l(0, 0, 0, 0));
        w.numbers(0, 5);
        due("21 prints until it is FULL", w.run(forever), FULL);
        due("24 what a FULL one printed is nowhere", w.both(never, never), 1);
        due("24 what a FULL one printed is nowhere", w.both(once, never), 1);
        due("24 FULL", w.both(never, forever), FULL);
        due("24 what a FULL one printed is nowhere", w.both(never, once), 1);
    }

    /** A method that puts N 0, or R 0, at one place of what was there; run with others by turns. */
    private static void places(String what, Counted x, int[] line, boolean reference) {
        int m = x.told(2, 3, 0, line);
        for (int which = 0; which < 2; which++) {
            x.numbers(which, 1, 0);
            x.things(which, 58, 59, 0);
        }
        due("24 the same in " + what, x.both(m, m), 1);
        if (reference) {
            x.things(1, -1);
        } else {
            x.numbers(1, 2);
        }
        due("24 another in " + what, x.both(m, m), 0);
    }

    private static void promise24Things() {
        Supplier<Counted> maker = () -> {
            Counted x = new Counted();
            x.type(-1);
            for (int f = 0; f < 16; f++) {
                x.field(0, f == 1 || f == 15);
            }
            for (int s = 0; s < 8; s++) {
                x.shared(s >= 6);
            }
            x.thing(0);
            x.array(16);
            for (int t = 2; t < 60; t++) {
                due("8 as many as there may be", t == 58 ? x.array(16) : x.thing(0), t);
            }
            return x;
        };
        places("the first STATIC", maker.get(), l(17, 0, 0, 0), false);
        places("the last STATIC of numbers", maker.get(), l(17, 5, 0, 0), false);
        places("the last STATIC", maker.get(), l(19, 7, 0, 0), true);
        places("the first FIELD of the first THING", maker.get(), l(11, 2, 0, 0), false);
        places("the last FIELD of the first THING", maker.get(), l(13, 2, 0, 15), true);
        places("the last FIELD of the last THING", maker.get(), l(13, 1, 0, 15), true);
        places("the last FIELD of numbers of the last THING", maker.get(), l(11, 1, 0, 14), false);
        places("the first item of an ARRAY", maker.get(), l(15, 0, 1, 0), false);
        Counted x = maker.get();
        int item = x.told(2, 1, 0, l(15, 0, 1, 0));
        x.numbers(0, 1, 15);
        x.numbers(1, 2, 15);
        x.things(0, 58);
        x.things(1, 58);
        due("24 another in the last item", x.both(item, item), 0);
        x.things(1, 1);
        due("24 of another ARRAY", x.both(item, item), 1);
        x.numbers(1, 2, 16);
        due("24 no such item: FAULTS alike", x.both(item, item), 1);
        int reference = x.told(0, 2, 0, l(13, 0, 1, 15));
        x.things(0, 59, 0);
        x.things(1, 59, 57);
        due("24 other THINGS that were there", x.both(reference, reference), 0);
        x.things(1, 59, 0);
        due("24 the same THING that was there", x.both(reference, reference), 1);
    }

    /** CLASS 0 with FIELDS 0, 15 of references, others of numbers; CLASSES 1 below 0, 2; STATICS 0, 7 of references;
     *  an object 0, an ARRAY 1. */
    private static Counted makers() {
        Counted x = new Counted();
        x.type(-1);
        x.type(0);
        x.type(-1);
        for (int f = 0; f < 16; f++) {
            x.field(0, f == 0 || f == 15);
        }
        for (int s = 0; s < 8; s++) {
            x.shared(s == 0 || s == 7);
        }
        x.thing(0);
        x.array(2);
        x.things(0, 0, 1);
        x.things(1, 0, 1);
        return x;
    }

    private static void promise24Made() {
        Counted x = makers();
        int to0 = x.told(1, 0, 2, l(8, 0, 0, 0), l(11, 0, 0, 14), l(19, 0, 0, 0), l(31, 0, 0, 0));
        int to7 = x.told(1, 0, 2, l(8, 0, 0, 0), l(11, 0, 0, 14), l(19, 7, 0, 0), l(31, 0, 0, 0));
        int below = x.told(1, 0, 0, l(8, 0, 1, 0), l(11, 0, 0, 14), l(19, 0, 0, 0));
        int array = x.told(1, 0, 0, l(9, 0, 0, 0), l(19, 0, 0, 0));
        int same = x.told(0, 0, 0, l(8, 0, 0, 0), l(19, 0, 0, 0), l(19, 7, 0, 0));
        int apart = x.told(0, 0, 0, l(8, 0, 0, 0), l(8, 1, 0, 0), l(19, 0, 0, 0), l(19, 7, 1, 0));
        int unmet = x.told(0, 0, 0, l(8, 0, 0, 0), l(8, 1, 0, 0), l(13, 0, 1, 0), l(13, 1, 0, 15), l(11, 1, 0, 14));
        int clears = x.told(0, 0, 0, l(19, 0, 7, 0));
        due("24 their numbers do not matter", x.both(to0, to7), 1);
        x.numbers(0, 3);
        due("24 their numbers do not matter, whatever they hold", x.both(to0, to7), 1);
        due("24 the RESULT is the STATIC's in one order alone", x.both(to0, to0), 0);
        due("24 another CLASS", x.both(below, to0), 0);
        due("24 another kind", x.both(array, below), 0);
        due("24 an ARRAY of another size", x.both(array, array), 0);
        x.numbers(1, 3);
        due("24 an ARRAY of the same size", x.both(array, array), 1);
        due("24 the same CLASS, the same number", x.both(below, below), 1);
        x.numbers(1, 4);
        due("24 the same CLASS, another number", x.both(below, below), 0);
        due("24 one met twice, or two", x.both(same, apart), 0);
        due("24 two, or one met twice", x.both(apart, same), 0);
        due("24 one met twice in both", x.both(same, same), 1);
        due("24 two in both", x.both(apart, apart), 1);
        due("24 one that is not met does not matter", x.both(unmet, same), 1);
        due("24 one that is not met does not matter", x.both(apart, unmet), 1);
        due("24 none or one that was made", x.both(clears, same), 0);
        due("24 one that was made or none", x.both(same, clears), 0);
        Counted y = makers();
        int hangs = y.told(1, 2, 0, l(8, 3, 0, 0), l(11, 3, 0, 1), l(13, 0, 3, 15));
        int gives = y.told(1, 2, 2, l(8, 3, 0, 0), l(11, 3, 0, 1), l(31, 3, 0, 0));
        int there = y.told(1, 2, 2, l(13, 0, 1, 15), l(12, 3, 0, 15), l(31, 3, 0, 0));
        int tells = y.told(1, 2, 2, l(12, 3, 0, 15), l(31, 3, 0, 0));
        due("24 met from a THING that was there", y.both(hangs, hangs), 1);
        due("24 met from the RESULTS alone", y.both(gives, gives), 1);
        due("24 made, or there", y.both(hangs, there), 0);
        due("24 made, or there", y.both(there, hangs), 0);
        due("24 made, or null, as a RESULT", y.both(tells, hangs), 0);
        y.numbers(0, 1);
        due("24 met from a THING that was there, with another number", y.both(hangs, hangs), 0);
        due("24 each METHOD's RESULT is its own", y.both(gives, gives), 1);
        Counted z = new Counted();
        z.type(-1);
        z.shared(true);
        z.shared(true);
        int one = z.told(0, 0, 0, l(8, 0, 0, 0), l(19, 0, 0, 0));
        int two = z.told(0, 0, 0, l(8, 0, 0, 0), l(19, 1, 0, 0));
        int three = z.told(0, 0, 0, l(8, 1, 0, 0), l(8, 0, 0, 0), l(19, 1, 0, 0));
        for (int again = 0; again < 3; again++) {
            due("24 nothing was there, made by turns", z.both(one, two), 1);
            due("24 nothing was there, made by turns", z.both(two, one), 1);
            due("24 nothing was there, the same twice", z.both(one, one), 1);
            due("24 nothing was there, others between", z.both(three, one), 1);
            due("24 nothing was there, others between", z.both(two, three), 1);
        }
    }

    private static void promise24MadeDeep() {
        // a chain of N 0 objects; the one at its end holds what STATIC 1 was; counts makes that one more
        Counted x = makers();
        int chain = x.told(1, 0, 2, l(0, 1, 0, 1), l(16, 2, 1, 0), l(8, 0, 0, 0), l(11, 0, 2, 14), l(2, 0, 0, 1), l(24, 0, 3, 10),
            l(8, 1, 0, 0), l(13, 1, 0, 15), l(7, 0, 1, 0), l(28, 0, 0, 4), l(31, 0, 0, 0));
        int rings = x.told(1, 0, 2, l(21, 0, chain, 0), l(7, 1, 0, 0), l(12, 2, 1, 15), l(25, 2, 0, 6), l(7, 1, 2, 0), l(28, 0, 0, 2),
            l(13, 1, 0, 15), l(31, 0, 0, 0));
        int counts = x.told(1, 0, 2, l(21, 0, chain, 0), l(0, 1, 0, 1), l(16, 2, 1, 0), l(1, 2, 2, 1), l(17, 1, 2, 0), l(31, 0, 0, 0));
        int keeps = x.told(1, 0, 0, l(21, 0, chain, 0), l(19, 7, 0, 0));
        x.numbers(0, 29);
        x.numbers(1, 29);
        due("24 58 that were made and two that were there", x.both(chain, chain), 1);
        due("24 58 in two rings", x.both(rings, rings), 1);
        due("24 another number at the very end", x.both(counts, counts), 0);
        due("24 alike at the very end", x.both(keeps, keeps), 1);
        x.numbers(1, 30);
        due("24 61 THINGS", x.both(chain, chain), FULL);
        x.numbers(1, 28);
        due("24 a chain that is one shorter", x.both(keeps, keeps), 0);
        due("24 each its own RESULT", x.both(chain, chain), 1);
        due("24 a ring or a chain, each its own RESULT", x.both(rings, chain), 1);
        x.numbers(0, 1);
        x.numbers(1, 1);
        due("24 chains of one", x.both(chain, chain), 1);
        due("24 another number in chains of one", x.both(counts, counts), 0);
        // a made thing that refers to one that STATIC 0 has: which one it is depends on the order
        Counted y = makers();
        int refers = y.told(0, 0, 2, l(8, 0, 0, 0), l(18, 1, 0, 0), l(13, 0, 1, 0), l(8, 2, 0, 0), l(13, 2, 0, 15), l(31, 2, 0, 0));
        int renews = y.told(0, 0, 0, l(8, 0, 0, 0), l(19, 0, 0, 0));
        int both = y.told(0, 0, 2, l(18, 1, 0, 0), l(8, 0, 0, 0), l(19, 0, 0, 0), l(8, 2, 0, 0), l(13, 2, 1, 0), l(13, 2, 0, 15), l(31, 2, 0, 0));
        due("24 refers to null or to what was made", y.both(refers, renews), 0);
        due("24 refers to null or to what was made", y.both(renews, refers), 0);
        due("24 refers to the same", y.both(refers, refers), 1);
        y.set(0, 0);
        due("24 refers to what was there or to what was made", y.both(refers, renews), 0);
        due("24 one that was made earlier, or what was there", y.both(both, both), 0);
        due("24 not that STATIC", y.both(refers, y.told(0, 0, 0, l(8, 0, 0, 0), l(19, 7, 0, 0))), 1);
    }

    // ---------------------------------------------------------------- promises 25 and 26

    private static void promise25() {
        for (int k : new int[] {MIN, -1, 0, 1, 199, 200, MAX}) {
            due("25 nothing was printed", new Counted().printed(k), 0);
        }
        Counted x = new Counted();
        int prints = x.told(1, 0, 0, l(0, 1, 0, 1), l(22, 0, 0, 0), l(2, 0, 0, 1), l(23, 2, 0, 1));
        int endless = x.told(1, 0, 0, l(22, 0, 0, 0), l(28, 0, 0, 0));
        int throwing = x.told(1, 0, 0, l(22, 0, 0, 0), l(30, 0, 0, 0));
        x.numbers(0, 120);
        due("21 prints", x.run(prints), 0);
        due("25 the first", x.printed(0), 120);
        due("25 the last", x.printed(119), 1);
        due("21 FULL", x.run(endless), FULL);
        due("24 both", x.both(prints, prints), 0);
        for (int k : new int[] {MIN, -1, 120, 121, 199, 200, MAX}) {
            due("25 none such: " + k, x.printed(k), 0);
        }
        x.numbers(0, MIN);
        due("21 ends by a FAULT", x.run(throwing), 6);
        due("25 what it printed before the FAULT", x.printed(120), MIN);
        x.numbers(0, 79);
        due("21 prints", x.run(prints), 0);
        due("26 200 in all", x.count(5), 200);
        due("25 the next RUN's come behind", x.printed(121), 79);
        due("25 the 200th", x.printed(199), 1);
        due("25 no 201st", x.printed(200), 0);
        x.numbers(0, 5);
        due("21 prints", x.run(prints), 0);
        due("26 205 in all", x.count(5), 205);
        due("25 the 200th stays", x.printed(199), 1);
        for (int k : new int[] {200, 204, 205, MAX}) {
            due("25 those past 200 are counted alone", x.printed(k), 0);
        }
        due("25 the first stays", x.printed(0), 120);
        due("25 none at -1", x.printed(-1), 0);
    }

    private static void promise26() {
        for (int what : new int[] {-1, 7, MIN, MAX}) {
            due("26 what " + what, new Counted().count(what), OUTSIDE);
            due("26 what " + what, fullProgram().count(what), OUTSIDE);
        }
        int[] full = {8, 16, 8, 10, 1, 0, 1};
        Counted x = fullProgram();
        for (int what = 0; what < 7; what++) {
            due("26 all that there may be of the program", x.count(what), full[what]);
        }
        for (int again = 1; again <= 20; again++) {
            due("21 prints 24", x.run(9), 0);
            due("26 numbers printed in all", x.count(5), 24 * again);
        }
        due("26 ANALYSED after RUNS", x.count(6), 1);
        Counted y = fullWorld();
        due("26 60 THINGS", y.count(4), 60);
        due("8 no 61st", y.thing(0), ROOM);
        due("26 60 THINGS", y.count(4), 60);
        Counted z = new Counted();
        due("26 not ANALYSED at first", z.count(6), 0);
        z.analyse();
        due("26 ANALYSED", z.count(6), 1);
        due("4 a STATIC more", z.shared(true), 0);
        due("26 not ANALYSED any more", z.count(6), 0);
        z.analyse();
        due("26 ANALYSED anew", z.count(6), 1);
        due("2 refused", z.type(5), UNKNOWN);
        due("26 what is refused does not matter", z.count(6), 1);
    }
}
