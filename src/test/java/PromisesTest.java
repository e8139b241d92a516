/** Each promise of the document by its number: ordinary inputs, the edges that it names, wrong inputs. */
public final class PromisesTest {
    private static final int UNKNOWN = -1, OUTSIDE = -2, ROOM = -3, FULL = -4;
    private static final int MIN = Integer.MIN_VALUE, MAX = Integer.MAX_VALUE;
    private static int wrong = 0;
    private static int asked = 0;

    private static void due(String what, int got, int want) {
        asked++;
        if (got != want) {
            wrong++;
            System.out.println(what + ": answered " + got + ", due is " + want);
        }
    }

    public static void main(String[] args) {
        constantsAndNew();
        types();
        fields();
        statics();
        methods();
        linesOperands();
        linesCallsAndResults();
        catches();
        things();
        puts();
        kinds();
        argsOf();
        programUnsaysAnalysis();
        analysisOfBranches();
        analysisOfParts();
        analysisOfCalls();
        analysisOfCatches();
        analysisOfRecursion();
        analysisAnew();
        orderFree();
        runsOfNumbers();
        runsOfReferences();
        runsOfFaults();
        runsOfCatches();
        runsOfCalls();
        boundOfLines();
        boundOfFaultLines();
        boundOfDepth();
        boundOfThings();
        fullChangesNothing();
        deeds();
        foreseen();
        bothOfNumbers();
        bothOfOldThings();
        bothOfMadeThings();
        bothChangesNothing();
        printedAndCounted();
        System.out.println(asked + " asked, " + (wrong == 0 ? "all answers are as due" : wrong + " answers are not as due"));
        if (wrong != 0) {
            System.exit(1);
        }
    }

    private static PurityEffects fresh() {
        return new PurityEffects();
    }

    private static int method(PurityEffects x, int p, int q, int result, int[]... lines) {
        int m = x.method(p, q, result);
        for (int i = 0; i < lines.length; i++) {
            due("line " + i + " of method " + m, x.line(m, lines[i][0], lines[i][1], lines[i][2], lines[i][3]), i);
        }
        return m;
    }

    private static int[] l(int op, int a, int b, int c) {
        return new int[] {op, a, b, c};
    }

    // ---- promises 1 to 7: the program

    private static void constantsAndNew() {
        due("1 UNKNOWN", PurityEffects.UNKNOWN, -1);
        due("1 OUTSIDE", PurityEffects.OUTSIDE, -2);
        due("1 ROOM", PurityEffects.ROOM, -3);
        due("1 FULL", PurityEffects.FULL, -4);
        PurityEffects x = fresh();
        for (int what = 0; what < 7; what++) {
            due("1 count(" + what + ") of a new object", x.count(what), 0);
        }
        for (int which = 0; which < 2; which++) {
            for (int k = 0; k < 3; k++) {
                due("1 number args", x.arg(which, false, k, 0), 0);
                due("1 reference args", x.arg(which, true, k, -1), -1);
            }
        }
        due("1 analyse nothing", x.analyse(), 0);
        due("1 count(6)", x.count(6), 1);
    }

    private static void types() {
        PurityEffects x = fresh();
        due("2 below one that is not", x.type(0), UNKNOWN);
        due("2 below -2", x.type(-2), UNKNOWN);
        due("2 below MIN", x.type(MIN), UNKNOWN);
        due("2 first", x.type(-1), 0);
        due("2 below itself", x.type(1), UNKNOWN);
        for (int t = 1; t < 8; t++) {
            due("2 more", x.type(t - 1), t);
        }
        due("2 no room", x.type(-1), ROOM);
        due("2 unknown ahead of room", x.type(8), UNKNOWN);
        due("2 count", x.count(0), 8);
    }

    private static void fields() {
        PurityEffects x = fresh();
        due("3 no class", x.field(0, true), UNKNOWN);
        x.type(-1);
        x.type(0);
        x.type(1);
        x.type(-1);
        due("3 first", x.field(1, false), 0);
        due("3 -1", x.field(-1, false), UNKNOWN);
        due("3 4", x.field(4, false), UNKNOWN);
        x.thing(1);
        due("3 objects of it", x.field(1, true), OUTSIDE);
        due("3 objects below it", x.field(0, true), OUTSIDE);
        due("3 objects above it only", x.field(2, true), 1);
        due("3 another", x.field(3, true), 2);
        due("3 refused ones have no number", x.count(1), 3);
        int t = x.thing(2);
        due("3 field of above", x.put(t, 0, 5), 1);
        due("3 own field", x.get(t, 1), -1);
        due("3 field of another", x.put(t, 2, -1), UNKNOWN);
        for (int k = 3; k < 16; k++) {
            due("3 more", x.field(3, false), k);
        }
        due("3 no room", x.field(3, false), ROOM);
        due("3 room ahead of outside", x.field(0, false), ROOM);
        due("3 unknown ahead of room", x.field(4, false), UNKNOWN);
        PurityEffects y = fresh();
        y.type(-1);
        y.array(3);
        due("3 arrays are no objects", y.field(0, false), 0);
        int m = method(y, 0, 0, 0, l(8, 0, 0, 0), l(28, 0, 0, 1));
        due("3 a full run", y.run(m), FULL);
        due("3 what a full run made is not there", y.field(0, false), 1);
        int made = method(y, 0, 0, 0, l(8, 0, 0, 0));
        due("3 a run", y.run(made), 0);
        due("3 objects of a run are there", y.field(0, false), OUTSIDE);
    }

    private static void statics() {
        PurityEffects x = fresh();
        for (int s = 0; s < 8; s++) {
            due("4 shared", x.shared(s % 2 == 1), s);
            due("4 at first", x.stat(s), s % 2 == 1 ? -1 : 0);
        }
        due("4 no room", x.shared(true), ROOM);
        due("4 count", x.count(2), 8);
    }

    private static void methods() {
        PurityEffects x = fresh();
        int[][] bad = {{-1, 0, 0}, {4, 0, 0}, {0, -1, 0}, {0, 4, 0}, {0, 0, -1}, {0, 0, 3}, {MAX, 0, 0}, {0, MIN, 0}};
        for (int[] b : bad) {
            due("5 outside", x.method(b[0], b[1], b[2]), OUTSIDE);
        }
        for (int m = 0; m < 10; m++) {
            due("5 method", x.method(m % 4, 3 - m % 4, m % 3), m);
        }
        due("5 no room", x.method(0, 0, 0), ROOM);
        due("5 outside ahead of room", x.method(4, 0, 0), OUTSIDE);
        due("5 count", x.count(3), 10);
    }

    /** For each op what a, b, c want: - nothing, L a local, C a class, n N a field, s S a static, J a line, T what is thrown. */
    private static final String[] WANTS = {
        "L--", "LLL", "LLL", "LLL", "LLL", "LLL", "L--", "LL-", "LC-", "LL-", "LLn", "LLn", "LLN", "LLN", "LLL", "LLL",
        "Ls-", "sL-", "LS-", "SL-", "LL-", "L0L", "L--", "LLJ", "LLJ", "L-J", "LLJ", "LCJ", "--J", "LC-", "T--", "L--"
    };

    private static int[] good(char want) {
        switch (want) {
            case 'L': return new int[] {0, 7};
            case 'C': return new int[] {0, 1};
            case 'n': return new int[] {0, 2};
            case 'N': return new int[] {1};
            case 's': return new int[] {1};
            case 'S': return new int[] {0, 2};
            case 'J': return new int[] {0, 24};
            case 'T': return new int[] {0, 3};
            case '0': return new int[] {0};
            default: return new int[] {MIN, -1, 99, MAX};
        }
    }

    private static int[] bad(char want) {
        switch (want) {
            case 'L': return new int[] {-1, 8, MIN, MAX};
            case 'C': return new int[] {-1, 2};
            case 'n': return new int[] {-1, 1, 3, 16};
            case 'N': return new int[] {-1, 0, 2, 3, 16};
            case 's': return new int[] {-1, 0, 2, 3, 8};
            case 'S': return new int[] {-1, 1, 3, 8};
            case 'J': return new int[] {-1, 25, MAX};
            case 'T': return new int[] {-1, 4};
            case '0': return new int[] {-1, 9, MAX};
            default: return new int[0];
        }
    }

    private static PurityEffects forLines() {
        PurityEffects x = fresh();
        x.type(-1);
        x.type(0);
        x.field(0, false);
        x.field(1, true);
        x.field(0, false);
        x.shared(true);
        x.shared(false);
        x.shared(true);
        for (int m = 0; m < 9; m++) {
            x.method(0, 0, m % 3);
        }
        return x;
    }

    private static void linesOperands() {
        for (int op = 0; op < 32; op++) {
            PurityEffects x = forLines();
            int[] next = new int[10];
            for (int k = 0; k < 3; k++) {
                for (int v : good(WANTS[op].charAt(k))) {
                    int[] abc = {good(WANTS[op].charAt(0))[0], good(WANTS[op].charAt(1))[0], good(WANTS[op].charAt(2))[0]};
                    abc[k] = v;
                    due("6 good operand of " + op, x.line(1, op, abc[0], abc[1], abc[2]), next[1]++);
                }
                for (int v : bad(WANTS[op].charAt(k))) {
                    int[] abc = {good(WANTS[op].charAt(0))[0], good(WANTS[op].charAt(1))[0], good(WANTS[op].charAt(2))[0]};
                    abc[k] = v;
                    due("6 bad operand of " + op, x.line(1, op, abc[0], abc[1], abc[2]), OUTSIDE);
                }
            }
        }
        PurityEffects x = forLines();
        due("6 op -1", x.line(0, -1, 0, 0, 0), OUTSIDE);
        due("6 op 32", x.line(0, 32, 0, 0, 0), OUTSIDE);
        due("6 method -1", x.line(-1, 0, 0, 0, 0), UNKNOWN);
        due("6 unknown ahead of outside", x.line(9, 32, 0, 0, 0), UNKNOWN);
        for (int n = 0; n < 24; n++) {
            due("6 lines", x.line(3, 0, 0, 0, n), n);
        }
        due("6 no room", x.line(3, 0, 0, 0, 0), ROOM);
        due("6 outside ahead of room", x.line(3, 0, 8, 0, 0), OUTSIDE);
    }

    private static void linesCallsAndResults() {
        PurityEffects x = fresh();
        x.method(3, 2, 1);
        x.method(0, 0, 0);
        x.method(0, 0, 2);
        due("6 params to 8", x.line(0, 21, 5, 0, 6), 0);
        due("6 numbers past 8", x.line(0, 21, 6, 0, 6), OUTSIDE);
        due("6 references past 8", x.line(0, 21, 5, 0, 7), OUTSIDE);
        due("6 without params a is 0 to 7", x.line(0, 21, 8, 1, 0), OUTSIDE);
        due("6 without params c is 0 to 7", x.line(0, 21, 0, 1, 8), OUTSIDE);
        due("6 without params 7", x.line(0, 21, 7, 1, 7), 1);
        due("6 result MAX", x.line(0, 21, MAX, 0, 0), OUTSIDE);
        due("6 31 of a number", x.line(0, 31, 8, 0, 0), OUTSIDE);
        due("6 31 of a number", x.line(0, 31, 7, 99, 99), 2);
        due("6 31 of none", x.line(1, 31, 8, 99, -99), 0);
        due("6 31 of a reference", x.line(2, 31, -1, 0, 0), OUTSIDE);
        due("6 31 of a reference", x.line(2, 31, 7, 0, 0), 0);
    }

    private static void catches() {
        PurityEffects x = fresh();
        due("7 unknown", x.caught(0, 0, 1, 0, 0), UNKNOWN);
        x.method(0, 0, 0);
        due("7 unknown ahead of outside", x.caught(-1, 5, 1, 0, 0), UNKNOWN);
        int[][] bad = {{1, 1, 0, 0}, {2, 1, 0, 0}, {-1, 1, 0, 0}, {0, 25, 0, 0}, {24, 25, 0, 0}, {0, 1, -1, 0}, {0, 1, 10, 0},
            {0, 1, 0, -1}, {0, 1, 0, 25}, {MIN, MAX, 0, 0}};
        for (int[] b : bad) {
            due("7 outside", x.caught(0, b[0], b[1], b[2], b[3]), OUTSIDE);
        }
        due("7 first", x.caught(0, 0, 24, 0, 24), 0);
        due("7 second", x.caught(0, 23, 24, 9, 0), 1);
        due("7 third", x.caught(0, 0, 1, 1, 0), 2);
        due("7 fourth", x.caught(0, 0, 1, 1, 0), 3);
        due("7 no room", x.caught(0, 0, 1, 1, 0), ROOM);
        due("7 outside ahead of room", x.caught(0, 1, 1, 1, 0), OUTSIDE);
        x.method(0, 0, 0);
        due("7 numbers are a method's own", x.caught(1, 0, 1, 1, 0), 0);
    }

    // ---- promises 8 to 15: the world

    private static void things() {
        PurityEffects x = fresh();
        due("8 no class", x.thing(0), UNKNOWN);
        x.type(-1);
        due("8 -1", x.thing(-1), UNKNOWN);
        due("8 1", x.thing(1), UNKNOWN);
        due("8 first", x.thing(0), 0);
        due("9 -1", x.array(-1), OUTSIDE);
        due("9 17", x.array(17), OUTSIDE);
        due("9 0", x.array(0), 1);
        due("9 16", x.array(16), 2);
        for (int t = 3; t < 60; t++) {
            due("8 9 more", t % 2 == 0 ? x.thing(0) : x.array(t % 17), t);
        }
        due("8 no room", x.thing(0), ROOM);
        due("9 no room", x.array(0), ROOM);
        due("8 unknown ahead of room", x.thing(1), UNKNOWN);
        due("9 outside ahead of room", x.array(17), OUTSIDE);
        due("8 9 count", x.count(4), 60);
    }

    private static void puts() {
        PurityEffects x = fresh();
        x.type(-1);
        x.type(0);
        x.field(0, true);
        x.field(1, false);
        x.shared(true);
        x.shared(false);
        due("10 no thing", x.put(0, 0, -1), UNKNOWN);
        int a = x.thing(0), b = x.thing(1), r = x.array(2);
        due("12 null at first", x.get(a, 0), -1);
        due("12 0 at first", x.get(b, 1), 0);
        due("10 a reference", x.put(b, 0, r), 1);
        due("12 a reference", x.get(b, 0), r);
        due("10 itself", x.put(a, 0, a), 1);
        due("10 no such thing is told", x.put(b, 0, 3), UNKNOWN);
        due("10 -2 is no thing", x.put(b, 0, -2), UNKNOWN);
        due("10 refused changes nothing", x.get(b, 0), r);
        due("10 null", x.put(b, 0, -1), 1);
        due("12 null", x.get(b, 0), -1);
        due("10 a number", x.put(b, 1, MIN), 1);
        due("12 a number", x.get(b, 1), MIN);
        due("10 a field of below", x.put(a, 1, 1), UNKNOWN);
        due("12 a field of below", x.get(a, 1), 0);
        due("10 no field", x.put(a, 2, 1), UNKNOWN);
        due("10 field -1", x.put(a, -1, 1), UNKNOWN);
        due("10 field 40", x.put(b, 33, 1), UNKNOWN);
        due("12 field 33", x.get(b, 33), 0);
        due("10 item", x.put(r, 1, 99), 1);
        due("12 item", x.get(r, 1), 99);
        due("10 item 2", x.put(r, 2, 1), UNKNOWN);
        due("10 item -1", x.put(r, -1, 1), UNKNOWN);
        due("12 item 2", x.get(r, 2), 0);
        due("12 no thing", x.get(3, 0), 0);
        due("12 thing -1", x.get(-1, 0), 0);
        due("11 reference", x.set(0, r), 1);
        due("13 reference", x.stat(0), r);
        due("11 no thing", x.set(0, 3), UNKNOWN);
        due("11 -2", x.set(0, -2), UNKNOWN);
        due("13 refused", x.stat(0), r);
        due("11 null", x.set(0, -1), 1);
        due("13 null", x.stat(0), -1);
        due("11 number", x.set(1, MAX), 1);
        due("13 number", x.stat(1), MAX);
        due("11 none such", x.set(2, 0), UNKNOWN);
        due("11 -1", x.set(-1, 0), UNKNOWN);
        due("13 none such", x.stat(2), 0);
        due("13 -1", x.stat(-1), 0);
    }

    private static void kinds() {
        PurityEffects x = fresh();
        x.type(-1);
        x.type(-1);
        due("14 none", x.kind(0), UNKNOWN);
        x.thing(1);
        x.array(0);
        x.array(16);
        x.thing(0);
        due("14 object", x.kind(0), 1);
        due("14 array of 0", x.kind(1), -10);
        due("14 array of 16", x.kind(2), -26);
        due("14 object", x.kind(3), 0);
        due("14 -1", x.kind(-1), UNKNOWN);
        due("14 4", x.kind(4), UNKNOWN);
    }

    private static void argsOf() {
        PurityEffects x = fresh();
        x.array(1);
        due("15 which -1", x.arg(-1, false, 0, 0), OUTSIDE);
        due("15 which 2", x.arg(2, false, 0, 0), OUTSIDE);
        due("15 k -1", x.arg(0, false, -1, 0), OUTSIDE);
        due("15 k 3", x.arg(0, false, 3, 0), OUTSIDE);
        due("15 outside ahead of unknown", x.arg(0, true, 3, 9), OUTSIDE);
        due("15 no thing", x.arg(0, true, 0, 1), UNKNOWN);
        due("15 -2", x.arg(0, true, 0, -2), UNKNOWN);
        due("15 thing", x.arg(1, true, 2, 0), -1);
        due("15 the other one", x.arg(0, true, 2, -1), -1);
        due("15 was", x.arg(1, true, 2, -1), 0);
        due("15 number", x.arg(1, false, 2, MIN), 0);
        due("15 was", x.arg(1, false, 2, 5), MIN);
        due("15 another", x.arg(1, false, 1, 5), 0);
    }

    // ---- promises 16 to 20: what may be

    private static void programUnsaysAnalysis() {
        for (int call = 0; call < 6; call++) {
            PurityEffects x = fresh();
            x.type(-1);
            x.method(0, 0, 0);
            x.line(0, 28, 0, 0, 0);
            due("16 effects before", x.effects(0, 0), UNKNOWN);
            due("16 analyse", x.analyse(), 1);
            due("16 world does not unsay", x.thing(0), 0);
            due("16 refused type", x.type(5), UNKNOWN);
            due("16 refused field", x.field(0, true), OUTSIDE);
            due("16 refused line", x.line(0, 99, 0, 0, 0), OUTSIDE);
            due("16 refused method", x.method(9, 0, 0), OUTSIDE);
            due("16 refused catch", x.caught(0, 1, 0, 0, 0), OUTSIDE);
            due("16 still", x.count(6), 1);
            due("17 still", x.effects(0, 7), 0);
            int got;
            switch (call) {
                case 0: got = x.type(-1); break;
                case 1: x.type(-1); x.analyse(); got = x.field(1, true); break;
                case 2: got = x.shared(true); break;
                case 3: got = x.method(0, 0, 0); break;
                case 4: got = x.line(0, 0, 0, 0, 0); break;
                default: got = x.caught(0, 0, 1, 0, 0); break;
            }
            due("16 told", got >= 0 ? 1 : 0, 1);
            due("16 unsaid", x.count(6), 0);
            due("17 unsaid", x.effects(0, 0), UNKNOWN);
            due("18 unsaid", x.by(0, 0, true), UNKNOWN);
            due("19 unsaid", x.may(0, 0, 0), UNKNOWN);
            due("20 unsaid", x.free(0, 0), UNKNOWN);
            due("17 unknown ahead of outside", x.effects(0, 9), UNKNOWN);
        }
        PurityEffects x = fresh();
        x.method(0, 0, 2);
        due("16 a method without lines", x.analyse(), 1);
        due("17 ends", x.effects(0, 7), 1);
        due("17 null", x.effects(0, 4), 1);
        due("17 a reference is not repeatable", x.effects(0, 6), 0);
        due("17 what -1", x.effects(0, -1), OUTSIDE);
        due("17 what 8", x.effects(0, 8), OUTSIDE);
        due("17 no method", x.effects(1, 9), UNKNOWN);
        due("18 way -1", x.by(0, -1, true), OUTSIDE);
        due("18 way 4", x.by(0, 4, true), OUTSIDE);
        due("18 no method", x.by(1, 4, true), UNKNOWN);
        due("19 no line", x.may(0, 0, 0), UNKNOWN);
        due("20 no method", x.free(0, 1), UNKNOWN);
        due("20 no method", x.free(-1, 0), UNKNOWN);
    }

    private static void analysisOfBranches() {
        PurityEffects x = fresh();
        x.type(-1);
        int m = method(x, 0, 3, 2,
            l(25, 1, 0, 3),   // 0: R1 null: 3
            l(27, 2, 0, 4),   // 1
            l(28, 0, 0, 24),  // 2
            l(31, 1, 0, 0),   // 3
            l(26, 0, 1, 24),  // 4
            l(7, 5, 2, 0),    // 5
            l(6, 2, 0, 0),    // 6
            l(27, 2, 0, 11),  // 7: never there
            l(25, 2, 0, 10),  // 8: always there
            l(22, 0, 0, 0),   // 9: not reached
            l(31, 5, 0, 0),   // 10
            l(22, 0, 0, 0));  // 11: not reached
        due("16 pure", x.analyse(), 1);
        int[] start = {1 | 4, 1 | 8, 1 | 16, 1, 1, 1, 1, 1};
        for (int r = 0; r < 8; r++) {
            due("19 at the beginning R " + r, x.may(m, 0, r), start[r]);
        }
        due("19 not null behind 25", x.may(m, 1, 1), 8);
        due("19 null at c of 25", x.may(m, 3, 1), 1);
        due("19 behind 27 as it was", x.may(m, 2, 2), 17);
        due("19 at c of 27", x.may(m, 4, 2), 16);
        due("19 copied", x.may(m, 6, 5), 16);
        due("19 null", x.may(m, 7, 2), 1);
        due("19 null", x.may(m, 10, 2), 1);
        due("19 not reached", x.may(m, 9, 0), 0);
        due("19 not reached", x.may(m, 11, 3), 0);
        due("19 no line", x.may(m, 12, 0), UNKNOWN);
        due("19 line -1", x.may(m, -1, 0), UNKNOWN);
        due("19 R 8", x.may(m, 0, 8), UNKNOWN);
        due("19 R -1", x.may(m, 0, -1), UNKNOWN);
        due("17 result", x.effects(m, 4), 1 | 16);
        due("17 no print is reached", x.effects(m, 2), 0);
        due("17 no faults", x.effects(m, 3), 0);
        int both = method(x, 0, 1, 0, l(23, 0, 1, 3), l(24, 0, 0, 3), l(30, 0, 0, 0), l(29, 0, 0, 0), l(29, 1, 0, 0));
        x.analyse();
        due("19 24 goes both ways", x.may(both, 2, 0), 5);
        due("19 29 as it is", x.may(both, 4, 0), 5);
        due("17 faults", x.effects(both, 3), 1 << 5 | 1 << 6);
        int ofNull = method(x, 0, 0, 0, l(29, 0, 0, 0));
        int ofSome = method(x, 0, 1, 0, l(29, 0, 0, 0));
        x.analyse();
        due("17 29 of null alone throws nothing", x.effects(ofNull, 3), 0);
        due("17 29 of a param", x.effects(ofSome, 3), 1 << 5);
    }

    private static void analysisOfParts() {
        PurityEffects x = fresh();
        x.type(-1);
        x.field(0, false);
        x.field(0, true);
        x.shared(false);
        x.shared(true);
        int m = method(x, 0, 2, 0,
            l(12, 2, 0, 1),   // 0 R2 = R0.1
            l(13, 2, 1, 1),   // 1 R2.1 = R1
            l(8, 3, 0, 0),    // 2
            l(11, 3, 0, 0),   // 3 of a new one: nothing
            l(10, 0, 3, 0),   // 4
            l(26, 0, 1, 7),   // 5
            l(7, 0, 1, 0),    // 6
            l(11, 0, 0, 0),   // 7 of param 0 or 1
            l(20, 0, 0, 0),   // 8 no read
            l(14, 0, 0, 0),   // 9
            l(15, 1, 0, 0),   // 10
            l(19, 1, 0, 0),   // 11
            l(16, 0, 0, 0),   // 12
            l(10, 0, 5, 0),   // 13 null alone
            l(22, 0, 0, 0));  // 14 not reached
        due("16 none is pure", x.analyse(), 0);
        int items = 1 << 24;
        due("18 reads by 0", x.by(m, 0, false), 2 | items);
        due("18 reads by 1", x.by(m, 1, false), items);
        due("18 reads by 2", x.by(m, 2, false), 0);
        due("18 reads by old", x.by(m, 3, false), 1 << 16);
        due("18 writes by 0", x.by(m, 0, true), 1);
        due("18 writes by 1", x.by(m, 1, true), 1 | items);
        due("18 writes by old", x.by(m, 3, true), 2 | 1 << 17);
        due("17 reads", x.effects(m, 0), 2 | items | 1 << 16);
        due("17 writes", x.effects(m, 1), 1 | 2 | items | 1 << 17);
        due("17 faults", x.effects(m, 3), 1 << 3 | 1 << 4 | 1 << 5);
        due("17 does not end", x.effects(m, 7), 0);
        due("17 does not print", x.effects(m, 2), 0);
        due("19 null or old", x.may(m, 1, 2), 33);
        due("19 not null then", x.may(m, 1, 0), 4);
        due("19 not null then", x.may(m, 2, 2), 32);
        due("19 joined", x.may(m, 7, 0), 4 | 8 | 1);
        due("19 null does not go on", x.may(m, 14, 0), 0);
        int self = method(x, 0, 1, 2, l(12, 0, 0, 1), l(31, 0, 0, 0));
        int nobody = method(x, 0, 0, 0, l(12, 0, 0, 1), l(22, 0, 0, 0));
        int fresh = method(x, 0, 0, 1, l(0, 0, 0, 3), l(9, 0, 0, 0), l(14, 0, 0, 0), l(31, 0, 0, 0));
        due("16 three are pure", x.analyse(), 3);
        due("17 over itself", x.effects(self, 4), 33);
        due("17 null alone", x.effects(nobody, 3), 8);
        due("17 null alone", x.effects(nobody, 7), 0);
        due("17 repeatable on new things", x.effects(fresh, 6), 1);
        int size = method(x, 0, 1, 1, l(20, 0, 0, 0), l(31, 0, 0, 0));
        int one = method(x, 0, 1, 1, l(10, 0, 0, 0), l(31, 0, 0, 0));
        x.analyse();
        due("17 a size is not read", x.effects(size, 6), 1);
        due("17 what reads is not repeatable", x.effects(one, 6), 0);
        due("17 but pure", x.effects(one, 5), 1);
        due("17 its faults", x.effects(fresh, 3), 1 << 2 | 1 << 4 | 1 << 5);
    }

    private static void analysisOfCalls() {
        PurityEffects x = fresh();
        x.type(-1);
        x.field(0, false);
        x.shared(true);
        int second = method(x, 0, 2, 2, l(11, 1, 0, 0), l(31, 1, 0, 0));
        int maker = method(x, 0, 0, 2, l(8, 0, 0, 0), l(31, 0, 0, 0));
        int old = method(x, 0, 0, 2, l(18, 0, 0, 0), l(31, 0, 0, 0));
        int user = method(x, 0, 2, 2, l(21, 0, second, 0), l(31, 0, 0, 0));
        int swapped = method(x, 0, 2, 2, l(7, 2, 0, 0), l(21, 0, second, 1), l(31, 1, 0, 0));
        int onNew = method(x, 0, 1, 2, l(21, 0, maker, 2), l(21, 0, second, 1), l(31, 1, 0, 0));
        int onOld = method(x, 0, 1, 2, l(21, 0, old, 2), l(21, 0, second, 1), l(31, 1, 0, 0));
        int number = method(x, 0, 1, 1, l(22, 0, 0, 0), l(31, 0, 0, 0));
        int calls = method(x, 0, 1, 0, l(21, 0, number, 0));
        due("16 pure ones", x.analyse(), 3);
        due("18 by way of 1", x.by(user, 1, true), 1);
        due("18 not of 0", x.by(user, 0, true), 0);
        due("17 the second, as it is there", x.effects(user, 4), 9);
        due("17 its faults", x.effects(user, 3), 1 << 3 | 1 << 5);
        due("18 swapped", x.by(swapped, 0, true), 1);
        due("18 swapped", x.by(swapped, 1, true), 0);
        due("17 null or param 0: as it is there", x.effects(swapped, 4), 5);
        due("18 new", x.effects(onNew, 1), 0);
        due("17 new", x.effects(onNew, 4), 2);
        due("17 pure on new", x.effects(onNew, 5), 1);
        due("18 old", x.by(onOld, 3, true), 1);
        due("18 old", x.by(onOld, 3, false), 1 << 16);
        due("17 old", x.effects(onOld, 4), 33);
        due("17 prints by a call", x.effects(calls, 2), 1);
        due("17 not pure by a call", x.effects(calls, 5), 0);
        due("17 a number: no reference", x.effects(number, 4), 0);
        due("19 result over R c", x.may(user, 1, 0), 9);
        due("19 other R as it is", x.may(user, 1, 1), 9);
    }

    private static void analysisOfCatches() {
        PurityEffects x = fresh();
        x.type(-1);
        x.field(0, true);
        int m = method(x, 0, 1, 2,
            l(12, 0, 0, 0),   // 0
            l(31, 0, 0, 0),   // 1
            l(31, 0, 0, 0),   // 2: 3 caught
            l(30, 2, 0, 0));  // 3: all others
        due("7 catch", x.caught(m, 0, 1, 3, 2), 0);
        due("7 catch", x.caught(m, 0, 1, 0, 3), 1);
        due("7 catch", x.caught(m, 0, 1, 5, 2), 2);
        x.analyse();
        due("19 all as before the line", x.may(m, 2, 0), 5);
        due("19 the first catch counts", x.may(m, 3, 0), 5);
        due("17 thrown in a catch", x.effects(m, 3), 1 << 8);
        due("17 result", x.effects(m, 4), 1 | 4 | 32);
        int behind = method(x, 0, 0, 2, l(30, 0, 0, 0));
        due("7 behind the last", x.caught(behind, 0, 1, 6, 24), 0);
        int thrower = method(x, 0, 0, 0, l(30, 1, 0, 0));
        int caller = method(x, 0, 0, 0, l(21, 0, thrower, 0), l(22, 0, 0, 0), l(21, 0, m, 0));
        due("7 a call's fault", x.caught(caller, 0, 1, 7, 2), 0);
        x.analyse();
        due("17 ends behind the last", x.effects(behind, 7), 1);
        due("17 null behind the last", x.effects(behind, 4), 1);
        due("17 no fault", x.effects(behind, 3), 0);
        due("17 a thrower does not end", x.effects(thrower, 7), 0);
        due("19 the call does not go on", x.may(caller, 1, 0), 0);
        due("19 its fault is caught", x.may(caller, 2, 0), 1);
        due("17 the other call's fault is not", x.effects(caller, 3), 1 << 8);
    }

    private static void analysisOfRecursion() {
        PurityEffects x = fresh();
        x.shared(false);
        int never = method(x, 0, 0, 0, l(17, 0, 0, 0), l(21, 0, 0, 0), l(22, 0, 0, 0));
        int some = method(x, 1, 1, 2, l(23, 0, 1, 3), l(21, 0, 1, 0), l(31, 0, 0, 0), l(7, 1, 0, 0), l(31, 1, 0, 0));
        int pong = x.method(0, 0, 0);
        int ping = method(x, 0, 0, 0, l(23, 0, 1, 2), l(21, 0, pong, 0), l(30, 3, 0, 0));
        due("6 pong", x.line(pong, 21, 0, ping, 0), 0);
        due("6 pong", x.line(pong, 22, 0, 0, 0), 1);
        due("16 pure", x.analyse(), 3);
        due("17 never ends", x.effects(never, 7), 0);
        due("17 writes at once", x.effects(never, 1), 1 << 16);
        due("17 prints nothing: not reached", x.effects(never, 2), 0);
        due("17 ends at the bottom", x.effects(some, 7), 1);
        due("17 what it was given", x.effects(some, 4), 5);
        due("17 faults round about", x.effects(pong, 3), 1 << 9);
        due("17 pong does not end", x.effects(pong, 7), 0);
        due("17 pong does not print", x.effects(pong, 2), 0);
    }

    private static void analysisAnew() {
        PurityEffects x = fresh();
        x.type(-1);
        x.field(0, false);
        x.shared(false);
        int first = method(x, 1, 2, 2, l(23, 0, 1, 3), l(10, 0, 0, 0), l(31, 1, 0, 0), l(31, 0, 0, 0));
        int caller = method(x, 0, 2, 2, l(7, 4, 0, 0), l(8, 5, 0, 0), l(21, 0, first, 4), l(31, 4, 0, 0), l(16, 0, 0, 0), l(17, 0, 0, 0), l(22, 0, 0, 0), l(31, 1, 0, 0));
        x.caught(caller, 2, 3, 5, 4);
        x.caught(caller, 2, 3, 3, 24);
        due("16 one is pure", x.analyse(), 1);
        due("17 of both params", x.effects(first, 4), 1 | 4 | 8);
        due("17 null, param 0, new, param 1 of the catch", x.effects(caller, 4), 1 | 2 | 4 | 8);
        due("18 read by a call", x.by(caller, 0, false), 1);
        due("18 read in the catch", x.by(caller, 3, false), 1 << 16);
        due("18 written in the catch", x.by(caller, 3, true), 1 << 16);
        due("17 faults are caught", x.effects(caller, 3), 0);
        x.caught(first, 1, 2, 0, 24);
        due("16 both are pure now", x.analyse(), 2);
        due("18 no catch any more", x.by(caller, 3, false), 0);
        due("18 no catch any more", x.by(caller, 3, true), 0);
        due("17 no print any more", x.effects(caller, 2), 0);
        due("19 not reached any more", x.may(caller, 4, 0), 0);
        due("17 null, param 0, new", x.effects(caller, 4), 1 | 2 | 4);
        due("17 no faults any more", x.effects(first, 3), 0);
        x.caught(first, 2, 3, 0, 3);
        x.line(first, 28, 0, 0, 4);
        x.analyse();
        due("17 behind the last is not the end any more", x.effects(first, 4), 4 | 8 | 1);
    }

    private static void orderFree() {
        PurityEffects x = fresh();
        x.shared(false);
        x.shared(false);
        int reads0 = method(x, 0, 0, 0, l(16, 0, 0, 0));
        int writes0 = method(x, 0, 0, 0, l(17, 0, 0, 0));
        int writes1 = method(x, 0, 0, 0, l(17, 1, 0, 0));
        int prints = method(x, 0, 0, 0, l(22, 0, 0, 0));
        int both = method(x, 0, 0, 0, l(16, 0, 1, 0), l(17, 0, 0, 0), l(22, 0, 0, 0));
        due("16 pure", x.analyse(), 1);
        due("20 reads twice", x.free(reads0, reads0), 1);
        due("20 reads, writes", x.free(reads0, writes0), 0);
        due("20 writes, reads", x.free(writes0, reads0), 0);
        due("20 writes twice", x.free(writes0, writes0), 0);
        due("20 others", x.free(writes0, writes1), 1);
        due("20 prints once", x.free(writes0, prints), 1);
        due("20 prints twice", x.free(prints, prints), 0);
        due("20 reads what is written", x.free(both, writes1), 0);
        due("20 writes what is written", x.free(writes0, both), 0);
        due("20 prints too", x.free(prints, both), 0);
    }

    // ---- promises 21 to 23: runs

    private static int ofTwo(int op, int b, int c) {
        PurityEffects x = fresh();
        int m = method(x, 2, 0, 1, l(op, 3, 0, 1), l(31, 3, 0, 0));
        x.arg(0, false, 0, b);
        x.arg(0, false, 1, c);
        due("21 op " + op, x.run(m), 0);
        return x.did(5);
    }

    private static void runsOfNumbers() {
        due("21 +", ofTwo(1, MAX, 1), MIN);
        due("21 -", ofTwo(2, MIN, 1), MAX);
        due("21 *", ofTwo(3, 65536, 65537), 65536);
        due("21 /", ofTwo(4, -7, 2), -3);
        due("21 %", ofTwo(5, -7, 2), -1);
        due("21 / of the least", ofTwo(4, MIN, -1), MIN);
        due("21 % of the least", ofTwo(5, MIN, -1), 0);
        for (int op = 23; op <= 24; op++) {
            for (int d = -1; d <= 1; d++) {
                PurityEffects x = fresh();
                int m = method(x, 2, 0, 1, l(op, 0, 1, 3), l(0, 2, 0, 5), l(31, 2, 0, 0), l(0, 2, 0, 6), l(31, 2, 0, 0));
                x.arg(0, false, 0, 9 + d);
                x.arg(0, false, 1, 9);
                due("21 branch", x.run(m), 0);
                boolean there = op == 23 ? d < 0 : d == 0;
                due("22 branch of " + op, x.did(5), there ? 6 : 5);
            }
        }
        PurityEffects x = fresh();
        int m = x.method(0, 0, 0);
        due("21 no such", x.run(1), UNKNOWN);
        due("21 -1", x.run(-1), UNKNOWN);
        due("21 no lines", x.run(m), 0);
        due("22 no lines", x.did(3), 0);
    }

    private static void runsOfReferences() {
        PurityEffects x = fresh();
        x.type(-1);
        x.type(0);
        x.type(-1);
        x.thing(0);
        x.thing(1);
        x.thing(2);
        x.array(0);
        int[][] lines = {l(25, 0, 0, 3), l(26, 0, 1, 3), l(27, 0, 0, 3), l(27, 0, 1, 3), l(28, 0, 0, 3)};
        int[][] there = {
            {1, 1, 0, 0, 1},   // null
            {0, 0, 1, 0, 1},   // 0
            {0, 0, 1, 1, 1},   // below 0
            {0, 0, 0, 0, 1},   // another class
            {0, 0, 0, 0, 1}};  // an array
        int[] m = new int[5];
        for (int i = 0; i < 5; i++) {
            m[i] = method(x, 0, 2, 1, lines[i], l(0, 2, 0, 5), l(31, 2, 0, 0), l(0, 2, 0, 6), l(31, 2, 0, 0));
        }
        for (int t = -1; t < 4; t++) {
            x.arg(0, true, 0, t);
            for (int i = 0; i < 5; i++) {
                due("21 branch", x.run(m[i]), 0);
                due("21 branch of " + lines[i][0] + " on " + t, x.did(5), there[t + 1][i] == 1 ? 6 : 5);
            }
        }
        x.arg(0, true, 1, 3);
        due("21 the same", x.run(m[1]), 0);
        due("22 the same", x.did(5), 6);
        int size = method(x, 0, 1, 1, l(20, 0, 0, 0), l(22, 0, 0, 0), l(14, 0, 0, 0));
        due("21 no items", x.run(size), 4);
        due("25 no items", x.printed(0), 0);
        due("26 printed", x.count(5), 1);
        due("10 no items", x.put(3, 0, 0), UNKNOWN);
        due("12 no items", x.get(3, 0), 0);
        int copy = method(x, 0, 2, 2, l(7, 3, 0, 0), l(6, 0, 0, 0), l(31, 3, 0, 0));
        x.arg(0, true, 0, 1);
        due("21 copied", x.run(copy), 0);
        due("22 copied", x.did(5), 1);
    }

    private static void runsOfFaults() {
        PurityEffects x = fresh();
        x.type(-1);
        x.type(0);
        x.field(0, false);
        x.field(1, true);
        x.thing(0);
        x.thing(1);
        x.array(2);
        int[][] lines = {l(10, 1, 0, 0), l(11, 0, 1, 0), l(12, 1, 0, 1), l(13, 0, 1, 1), l(14, 1, 0, 0), l(15, 0, 0, 1), l(20, 1, 0, 0),
            l(29, 0, 1, 0), l(30, 0, 0, 0)};
        int[] m = new int[9];
        for (int i = 0; i < 9; i++) {
            m[i] = method(x, 1, 1, 0, lines[i]);
        }
        int[][] due = {
            {3, 3, 3, 3, 3, 3, 3, 0, 6},   // null
            {0, 0, 5, 5, 5, 5, 5, 5, 6},   // above
            {0, 0, 0, 0, 5, 5, 5, 0, 6},   // below
            {5, 5, 5, 5, 0, 0, 0, 5, 6}};  // an array
        for (int t = -1; t < 3; t++) {
            x.arg(0, true, 0, t);
            for (int i = 0; i < 9; i++) {
                due("21 fault of " + lines[i][0] + " on " + t, x.run(m[i]), due[t + 1][i]);
                due("22 result of none", x.did(5), 0);
            }
        }
        x.arg(0, false, 0, 2);
        due("21 no such item", x.run(m[4]), 4);
        due("21 no such item", x.run(m[5]), 4);
        due("22 nothing was read", x.did(0), 0);
        due("22 nothing was written", x.did(1), 0);
        x.arg(0, false, 0, -1);
        due("21 item -1", x.run(m[4]), 4);
        x.arg(0, true, 0, 0);
        due("21 another kind ahead of the item", x.run(m[4]), 5);
        x.arg(0, true, 0, -1);
        due("21 null ahead of the item", x.run(m[5]), 3);
        PurityEffects y = fresh();
        int div = method(y, 2, 0, 1, l(0, 2, 0, 8), l(4, 2, 0, 1), l(31, 2, 0, 0), l(31, 2, 0, 0));
        due("21 by 0", y.run(div), 1);
        due("22 no result of a fault", y.did(5), 0);
        y.caught(div, 1, 2, 1, 3);
        due("21 caught", y.run(div), 0);
        due("22 nothing else of the line is done", y.did(5), 8);
        int neg = method(y, 1, 0, 0, l(9, 0, 0, 0));
        y.arg(0, false, 0, -1);
        due("21 below 0", y.run(neg), 2);
    }

    private static void runsOfCatches() {
        PurityEffects x = fresh();
        int m = method(x, 1, 0, 1, l(28, 0, 0, 2), l(31, 1, 0, 0), l(30, 1, 0, 0), l(0, 1, 0, 33), l(28, 0, 0, 1), l(0, 1, 0, 44), l(28, 0, 0, 1));
        due("21 no catch", x.run(m), 7);
        x.caught(m, 3, 24, 0, 5);
        due("21 from is past it", x.run(m), 7);
        x.caught(m, 0, 2, 0, 5);
        due("21 to is not in", x.run(m), 7);
        x.caught(m, 2, 3, 7, 3);
        due("21 caught", x.run(m), 0);
        due("22 at its line", x.did(5), 33);
        x.caught(m, 0, 24, 0, 5);
        due("21 the first catch", x.run(m), 0);
        due("22 the first catch", x.did(5), 33);
        due("22 lines", x.did(3), 5);
        PurityEffects y = fresh();
        int t = method(y, 0, 0, 1, l(30, 1, 0, 0));
        due("7 any", y.caught(t, 0, 1, 6, 0), 0);
        due("7 any", y.caught(t, 0, 1, 0, 24), 1);
        due("21 caught by any, ends behind", y.run(t), 0);
        due("22 0 behind the last", y.did(5), 0);
        due("22 one line", y.did(3), 1);
    }

    private static void runsOfCalls() {
        PurityEffects x = fresh();
        x.type(-1);
        x.field(0, true);
        x.thing(0);
        x.array(3);
        int sub = method(x, 2, 0, 1, l(2, 0, 0, 1), l(31, 0, 0, 0));
        int pick = method(x, 0, 3, 2, l(31, 2, 0, 0));
        int none = method(x, 1, 1, 0, l(0, 0, 0, 77), l(6, 0, 0, 0));
        int m = method(x, 1, 3, 2,
            l(0, 4, 0, 50), l(0, 5, 0, 8), l(21, 4, sub, 0), l(22, 4, 0, 0), l(22, 5, 0, 0),
            l(7, 5, 0, 0), l(7, 6, 1, 0), l(7, 7, 2, 0), l(21, 0, pick, 5),
            l(21, 5, none, 5), l(22, 5, 0, 0), l(31, 5, 0, 0));
        x.arg(0, true, 0, 0);
        x.arg(0, true, 2, 1);
        due("21 calls", x.run(m), 0);
        due("22 its result", x.did(5), 1);
        due("25 sub", x.printed(0), 42);
        due("25 its other numbers are its own", x.printed(1), 8);
        due("25 no result changes nothing", x.printed(2), 8);
        due("22 lines", x.did(3), 12 + 2 + 1 + 2);
        int empty = x.method(0, 0, 2);
        int over = method(x, 0, 1, 2, l(21, 0, empty, 0), l(31, 0, 0, 0));
        due("21 null comes to R c", x.run(over), 0);
        due("22 null is told", x.did(5), -1);
        int zero = x.method(0, 0, 1);
        int overN = method(x, 0, 0, 1, l(0, 0, 0, 9), l(21, 0, zero, 0), l(31, 0, 0, 0));
        due("21 0 comes to N a", x.run(overN), 0);
        due("22 0", x.did(5), 0);
    }

    /** Counts N 0 down to 0: 2 lines each time, and 2 more. */
    private static int counter(PurityEffects x) {
        return method(x, 2, 0, 0, l(0, 1, 0, 1), l(24, 0, 2, 4), l(2, 0, 0, 1), l(28, 0, 0, 1));
    }

    private static void boundOfLines() {
        PurityEffects x = fresh();
        int m = counter(x);
        x.arg(0, false, 0, 166);
        due("21 500 lines", x.run(m), 0);
        due("22 500 lines", x.did(3), 500);
        x.arg(0, false, 0, 167);
        due("21 503 lines", x.run(m), FULL);
        due("22 the one before", x.did(3), 500);
        int longer = method(x, 1, 0, 0, l(0, 7, 0, 0), l(21, 0, m, 0));
        x.arg(0, false, 0, 166);
        due("21 called lines count", x.run(longer), FULL);
        x.arg(0, false, 0, 165);
        due("21 499 lines", x.run(longer), 0);
        due("22 499 lines", x.did(3), 499);
        int one = method(x, 1, 0, 0, l(0, 7, 0, 0), l(0, 7, 0, 0), l(21, 0, m, 0));
        due("21 500 lines", x.run(one), 0);
        int two = method(x, 1, 0, 0, l(0, 7, 0, 0), l(0, 7, 0, 0), l(0, 7, 0, 0), l(21, 0, m, 0));
        due("21 501 lines", x.run(two), FULL);
    }

    private static void boundOfFaultLines() {
        PurityEffects x = fresh();
        int loop = method(x, 1, 0, 0, l(0, 1, 0, 1), l(24, 0, 2, 5), l(2, 0, 0, 1), l(30, 0, 0, 0), l(28, 0, 0, 1), l(0, 3, 0, 0));
        due("7 catch", x.caught(loop, 3, 4, 6, 1), 0);
        x.arg(0, false, 0, 40);
        due("21 40 faults", x.run(loop), 0);
        x.arg(0, false, 0, 41);
        due("21 41 faults", x.run(loop), FULL);
        int thrower = method(x, 0, 0, 0, l(30, 1, 0, 0));
        int calls = method(x, 1, 0, 0, l(0, 1, 0, 1), l(24, 0, 2, 5), l(2, 0, 0, 1), l(21, 0, thrower, 0), l(28, 0, 0, 1), l(0, 3, 0, 0));
        due("7 catch", x.caught(calls, 3, 4, 7, 1), 0);
        x.arg(0, false, 0, 20);
        due("21 20 faults, each at two lines", x.run(calls), 0);
        x.arg(0, false, 0, 21);
        due("21 21 faults, each at two lines", x.run(calls), FULL);
        int ends = method(x, 1, 0, 0, l(21, 0, loop, 0), l(30, 3, 0, 0));
        x.arg(0, false, 0, 39);
        due("21 the 40th ends the run", x.run(ends), 9);
        x.arg(0, false, 0, 40);
        due("21 the 41st would end the run", x.run(ends), FULL);
    }

    private static void boundOfDepth() {
        PurityEffects x = fresh();
        int m = method(x, 1, 0, 1, l(24, 0, 1, 4), l(0, 1, 0, 1), l(2, 0, 0, 1), l(21, 0, 0, 0), l(31, 0, 0, 0));
        x.arg(0, false, 0, 11);
        due("21 12 within one another", x.run(m), 0);
        x.arg(0, false, 0, 12);
        due("21 13 within one another", x.run(m), FULL);
        int deep = method(x, 1, 0, 1, l(24, 0, 1, 4), l(0, 1, 0, 1), l(2, 0, 0, 1), l(21, 0, 1, 0), l(30, 2, 0, 0));
        x.arg(0, false, 0, 11);
        due("21 thrown through 12", x.run(deep), 8);
    }

    private static void boundOfThings() {
        PurityEffects x = fresh();
        x.type(-1);
        int object = method(x, 0, 0, 2, l(8, 0, 0, 0), l(31, 0, 0, 0));
        int array = method(x, 1, 0, 2, l(9, 0, 0, 0), l(31, 0, 0, 0));
        x.arg(0, false, 0, 16);
        due("21 16 items", x.run(array), 0);
        due("22 made", x.did(4), 1);
        due("22 the thing", x.did(5), 0);
        due("14 16 items", x.kind(0), -26);
        x.arg(0, false, 0, 17);
        due("21 17 items", x.run(array), FULL);
        for (int t = 1; t < 59; t++) {
            x.array(0);
        }
        due("21 the 60th", x.run(object), 0);
        due("22 the 60th", x.did(5), 59);
        due("21 the 61st", x.run(object), FULL);
        x.arg(0, false, 0, 0);
        due("21 the 61st", x.run(array), FULL);
        x.arg(0, false, 0, -1);
        due("21 fault 2 ahead of the bounds", x.run(array), 2);
        due("26 things", x.count(4), 60);
    }

    private static void fullChangesNothing() {
        PurityEffects x = fresh();
        x.type(-1);
        x.field(0, false);
        x.shared(true);
        x.thing(0);
        x.array(1);
        x.put(0, 0, 5);
        x.put(1, 0, 6);
        int m = method(x, 1, 2, 0, l(11, 0, 7, 0), l(15, 1, 7, 6), l(8, 3, 0, 0), l(19, 0, 3, 0), l(22, 0, 0, 0), l(24, 0, 6, 5));
        x.arg(0, true, 0, 0);
        x.arg(0, true, 1, 1);
        x.arg(0, false, 0, 0);
        due("21 loops", x.run(m), FULL);
        due("21 field as it was", x.get(0, 0), 5);
        due("21 item as it was", x.get(1, 0), 6);
        due("21 static as it was", x.stat(0), -1);
        due("21 things as they were", x.count(4), 2);
        due("21 printed as it was", x.count(5), 0);
        due("25 nothing of a full run", x.printed(0), 0);
        due("22 none", x.did(3), 0);
        x.arg(0, false, 0, 3);
        due("21 ends", x.run(m), 0);
        due("21 field", x.get(0, 0), 0);
        due("21 item", x.get(1, 0), 0);
        due("21 static", x.stat(0), 2);
        due("25 printed", x.printed(0), 3);
        due("22 writes", x.did(1), 1 | 1 << 24 | 1 << 16);
    }

    private static void deeds() {
        PurityEffects x = fresh();
        due("22 -1", x.did(-1), OUTSIDE);
        due("22 6", x.did(6), OUTSIDE);
        for (int what = 0; what < 6; what++) {
            due("22 without", x.did(what), 0);
        }
        x.type(-1);
        x.field(0, false);
        x.field(0, true);
        x.shared(false);
        x.thing(0);
        int m = method(x, 0, 1, 1,
            l(8, 1, 0, 0), l(11, 1, 0, 0), l(10, 0, 1, 0), l(13, 1, 0, 1), l(12, 2, 0, 1), l(16, 0, 0, 0), l(22, 0, 0, 0), l(22, 0, 0, 0),
            l(0, 0, 0, 4), l(31, 0, 0, 0));
        x.arg(0, true, 0, 0);
        due("21 run", x.run(m), 0);
        due("22 reads of what was there", x.did(0), 2 | 1 << 16);
        due("22 writes of what was there", x.did(1), 0);
        due("22 printed", x.did(2), 2);
        due("22 lines", x.did(3), 10);
        due("22 made", x.did(4), 1);
        due("22 result", x.did(5), 4);
        int old = method(x, 0, 1, 0, l(11, 0, 0, 0), l(10, 0, 0, 0), l(20, 0, 0, 0));
        x.arg(0, true, 0, 1);
        due("21 what a run made is there", x.run(old), 5);
        due("22 reads", x.did(0), 1);
        due("22 writes", x.did(1), 1);
        due("22 a fault has no result", x.did(5), 0);
        due("22 none made", x.did(4), 0);
    }

    private static void foreseen() {
        PurityEffects x = fresh();
        due("23 without", x.foreseen(), 1);
        x.type(-1);
        x.field(0, false);
        x.shared(true);
        x.thing(0);
        int m = method(x, 1, 2, 0, l(11, 1, 0, 0), l(18, 2, 0, 0), l(22, 0, 0, 0), l(11, 2, 0, 0));
        x.arg(0, true, 0, 0);
        x.arg(0, true, 1, 0);
        due("21 run", x.run(m), 3);
        due("23 nothing was analysed", x.foreseen(), 1);
        x.analyse();
        x.set(0, 0);
        due("21 run", x.run(m), 0);
        due("23 foreseen", x.foreseen(), 1);
        x.array(1);
        x.set(0, 1);
        due("21 run", x.run(m), 5);
        due("23 fault foreseen", x.foreseen(), 1);
        x.line(m, 30, 0, 0, 0);
        due("23 of the run", x.foreseen(), 1);
        PurityEffects y = fresh();
        y.type(-1);
        y.field(0, false);
        y.thing(0);
        y.thing(0);
        int writer = method(y, 1, 1, 0, l(11, 0, 0, 0));
        int second = method(y, 1, 3, 0, l(21, 0, writer, 1));
        int printer = method(y, 1, 0, 0, l(22, 0, 0, 0), l(4, 0, 0, 1));
        int quiet = method(y, 0, 0, 0, l(0, 0, 0, 0));
        y.analyse();
        y.arg(0, true, 0, 1);
        y.arg(0, true, 1, 0);
        due("21 by way of param 1", y.run(second), 0);
        due("22 by way of param 1", y.did(1), 1);
        due("23 by way of param 1", y.foreseen(), 1);
        y.arg(0, true, 2, 0);
        due("21 by way of param 1, also given as 2", y.run(second), 0);
        due("23 by way of param 1, also given as 2", y.foreseen(), 1);
        due("21 by way of param 0", y.run(writer), 0);
        due("23 by way of param 0", y.foreseen(), 1);
        due("21 prints and faults", y.run(printer), 1);
        due("23 prints and faults", y.foreseen(), 1);
        due("21 does nothing", y.run(quiet), 0);
        due("23 does nothing", y.foreseen(), 1);
    }

    // ---- promise 24: both

    private static void bothOfNumbers() {
        PurityEffects x = fresh();
        x.shared(false);
        int add = method(x, 1, 0, 0, l(16, 1, 0, 0), l(1, 1, 1, 0), l(17, 0, 1, 0));
        int mul = method(x, 1, 0, 0, l(16, 1, 0, 0), l(3, 1, 1, 0), l(17, 0, 1, 0));
        int says = method(x, 1, 0, 0, l(22, 0, 0, 0));
        int asks = method(x, 0, 0, 1, l(16, 1, 0, 0), l(31, 1, 0, 0));
        int div = method(x, 1, 0, 0, l(16, 1, 0, 0), l(4, 1, 0, 1));
        due("24 no such", x.both(0, 5), UNKNOWN);
        due("24 no such", x.both(-1, 0), UNKNOWN);
        x.arg(0, false, 0, 2);
        x.arg(1, false, 0, 3);
        due("24 sums", x.both(add, add), 1);
        due("24 sums and products", x.both(add, mul), 0);
        due("24 products", x.both(mul, mul), 1);
        due("24 printed in another order", x.both(says, says), 0);
        due("24 the result", x.both(add, asks), 0);
        due("24 the result", x.both(asks, add), 0);
        due("24 the fault", x.both(add, div), 0);
        due("24 the fault", x.both(div, add), 0);
        x.set(0, 1);
        due("24 no fault", x.both(add, div), 1);
        x.arg(1, false, 0, 2);
        due("24 printed alike", x.both(says, says), 1);
        x.arg(0, false, 0, 1);
        x.arg(1, false, 0, 1);
        x.set(0, -1);
        due("24 fault in one order", x.both(add, div), 0);
    }

    private static void bothOfOldThings() {
        PurityEffects x = fresh();
        x.type(-1);
        x.field(0, false);
        x.field(0, true);
        x.thing(0);
        x.thing(0);
        x.array(1);
        int put = method(x, 1, 2, 0, l(11, 0, 0, 0));
        int hang = method(x, 1, 2, 0, l(13, 0, 1, 1));
        int item = method(x, 1, 3, 0, l(15, 2, 7, 0));
        int make = method(x, 1, 1, 0, l(8, 1, 0, 0), l(13, 0, 1, 1));
        int says = method(x, 1, 1, 0, l(10, 0, 0, 0), l(24, 0, 7, 3), l(22, 0, 0, 0));
        int tells = method(x, 0, 1, 2, l(12, 0, 0, 1), l(31, 0, 0, 0));
        for (int which = 0; which < 2; which++) {
            x.arg(which, false, 0, which);
            x.arg(which, true, 0, 0);
            x.arg(which, true, 1, which);
            x.arg(which, true, 2, 2);
        }
        due("24 a field of numbers", x.both(put, put), 0);
        due("24 a field of references", x.both(hang, hang), 0);
        due("24 an item", x.both(item, item), 0);
        due("24 other places", x.both(put, hang), 1);
        due("24 other places", x.both(item, hang), 1);
        due("24 made or there", x.both(make, hang), 0);
        due("24 made or there", x.both(hang, make), 0);
        due("24 made or null", x.both(make, tells), 0);
        due("24 null or made", x.both(tells, make), 0);
        due("24 old things as results", x.both(tells, hang), 0);
        due("24 how many are printed", x.both(says, put), 0);
        x.put(0, 1, 1);
        due("24 the same thing", x.both(tells, hang), 1);
        x.arg(1, true, 0, 1);
        due("24 things apart", x.both(put, put), 1);
        due("24 things apart", x.both(make, make), 1);
    }

    private static void bothOfMadeThings() {
        PurityEffects x = fresh();
        x.type(-1);
        x.type(0);
        x.field(0, true);
        x.field(0, false);
        x.shared(true);
        x.shared(true);
        x.shared(false);
        int to0 = method(x, 1, 0, 2, l(8, 0, 0, 0), l(11, 0, 0, 1), l(19, 0, 0, 0), l(31, 0, 0, 0));
        int to1 = method(x, 1, 0, 2, l(8, 0, 0, 0), l(11, 0, 0, 1), l(19, 1, 0, 0), l(31, 0, 0, 0));
        int kind1 = method(x, 1, 0, 0, l(8, 0, 1, 0), l(11, 0, 0, 1), l(19, 0, 0, 0));
        int rubbish = method(x, 1, 0, 0, l(9, 0, 0, 0), l(8, 0, 0, 0), l(8, 0, 0, 0));
        int share = method(x, 0, 0, 0, l(18, 0, 0, 0), l(19, 1, 0, 0));
        int chain = method(x, 1, 0, 2, l(8, 0, 0, 0), l(8, 1, 0, 0), l(13, 0, 1, 0), l(13, 1, 0, 0), l(11, 1, 0, 1), l(31, 0, 0, 0));
        int count = method(x, 0, 0, 2, l(8, 0, 0, 0), l(0, 1, 0, 1), l(16, 0, 2, 0), l(1, 0, 0, 1), l(17, 2, 0, 0), l(8, 1, 0, 0), l(13, 0, 1, 0), l(11, 1, 0, 1), l(31, 0, 0, 0));
        due("24 made in other orders", x.both(to0, to1), 1);
        due("24 the same static, other results", x.both(to0, to0), 0);
        x.arg(0, false, 0, 4);
        due("24 what they hold", x.both(to0, to1), 1);
        due("24 which one stays", x.both(to0, kind1), 0);
        due("24 made and not met", x.both(rubbish, chain), 1);
        due("24 met from each other", x.both(chain, chain), 1);
        due("24 shared before or after", x.both(to0, share), 0);
        due("24 what is met from a result holds another number", x.both(count, count), 0);
        x.thing(0);
        x.arg(0, true, 0, 0);
        x.arg(1, true, 0, 0);
        int hang = method(x, 0, 1, 0, l(8, 1, 0, 0), l(13, 0, 1, 0));
        due("24 made alike, hung on what was there", x.both(hang, hang), 1);
        int hangHeld = method(x, 1, 1, 0, l(8, 1, 0, 0), l(11, 1, 0, 1), l(13, 0, 1, 0));
        due("24 made otherwise, hung on what was there", x.both(hangHeld, hangHeld), 0);
        PurityEffects y = fresh();
        y.type(-1);
        y.type(-1);
        y.shared(true);
        int a = method(y, 0, 0, 0, l(8, 0, 0, 0), l(19, 0, 0, 0));
        int b = method(y, 0, 0, 0, l(8, 0, 1, 0), l(19, 0, 0, 0));
        int c = method(y, 0, 0, 0, l(9, 0, 0, 0), l(19, 0, 0, 0));
        due("24 another class", y.both(a, b), 0);
        due("24 an array", y.both(a, c), 0);
        due("24 the same kind", y.both(a, a), 1);
        y.arg(0, false, 0, 1);
        int n = method(y, 1, 0, 0, l(9, 0, 0, 0), l(19, 0, 0, 0));
        due("24 arrays of other sizes", y.both(n, n), 0);
    }

    private static void bothChangesNothing() {
        PurityEffects x = fresh();
        x.type(-1);
        x.field(0, false);
        x.shared(false);
        x.thing(0);
        int m = method(x, 1, 1, 1, l(11, 0, 0, 0), l(17, 0, 0, 0), l(22, 0, 0, 0), l(8, 1, 0, 0), l(31, 0, 0, 0));
        int forever = method(x, 0, 0, 0, l(22, 0, 0, 0), l(28, 0, 0, 0));
        x.arg(0, true, 0, 0);
        x.arg(0, false, 0, 7);
        x.arg(1, true, 0, 0);
        x.arg(1, false, 0, 8);
        due("21 run", x.run(m), 0);
        due("24 last one stays", x.both(m, m), 0);
        due("24 full", x.both(m, forever), FULL);
        due("24 full", x.both(forever, m), FULL);
        due("24 field as it was", x.get(0, 0), 7);
        due("24 static as it was", x.stat(0), 7);
        due("24 printed as it was", x.count(5), 1);
        due("24 things as they were", x.count(4), 2);
        due("24 did as it was", x.did(5), 7);
        due("24 did as it was", x.did(3), 5);
        x.arg(1, false, 0, 7);
        due("24 alike now", x.both(m, m), 1);
        for (int t = 2; t < 59; t++) {
            x.array(0);
        }
        due("24 one may be made, two not", x.both(m, m), FULL);
        due("24 things as they were", x.count(4), 59);
    }

    // ---- promises 25 and 26

    private static void printedAndCounted() {
        PurityEffects x = fresh();
        int m = method(x, 1, 0, 0, l(0, 1, 0, 1), l(22, 0, 0, 0), l(2, 0, 0, 1), l(23, 2, 0, 1));
        x.arg(0, false, 0, 150);
        due("21 run", x.run(m), 0);
        due("22 printed", x.did(2), 150);
        due("25 first", x.printed(0), 150);
        due("25 last", x.printed(149), 1);
        due("25 none", x.printed(150), 0);
        due("25 -1", x.printed(-1), 0);
        x.arg(0, false, 0, 60);
        due("21 run", x.run(m), 0);
        due("22 all are counted", x.did(2), 60);
        due("26 all are counted", x.count(5), 210);
        due("25 the 200th", x.printed(199), 11);
        due("25 not kept", x.printed(200), 0);
        due("25 not kept", x.printed(209), 0);
        x.arg(0, false, 0, 1);
        x.arg(1, false, 0, 1);
        due("24 printed past 200", x.both(m, m), 1);
        due("26 -1", x.count(-1), OUTSIDE);
        due("26 7", x.count(7), OUTSIDE);
        due("26 methods", x.count(3), 1);
        due("26 analysed", x.count(6), 0);
        x.analyse();
        due("26 analysed", x.count(6), 1);
    }
}
