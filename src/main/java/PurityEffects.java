public final class PurityEffects {
    public static final int UNKNOWN = -1, OUTSIDE = -2, ROOM = -3, FULL = -4;

    private static final int NULL = -1;
    private static final int CLASSES = 8, FIELDS = 16, STATICS = 8, METHODS = 10, LINES = 24, CATCHES = 4;
    private static final int LOCALS = 8, PARAMS = 3, LAST_OP = 31, LAST_FAULT = 9, THROWN = 4;
    private static final int THINGS = 60, ITEMS = 16, ROW = 16, PRINTED = 200;
    private static final int DEPTH = 12, LINES_DONE = 500, FAULT_LINES = 40;
    private static final int STATIC_PLACE = 16, ITEM_PLACE = 24, WAYS = 4, OLD_WAY = 3;
    private static final int MAY_NULL = 1, MAY_NEW = 2, MAY_PARAM = 4, MAY_OLD = 32, MAY_BITS = 6, MAY_ALL = 63;
    private static final int BY_ZERO = 1, BELOW_ZERO = 2, AT_NULL = 3, NO_ITEM = 4, OTHER_KIND = 5, FIRST_THROWN = 6;
    private static final int NO_RESULT = 0, NUMBER_RESULT = 1, REFERENCE_RESULT = 2;
    private static final int ARRAY_KIND = -10, DEEDS = 6, EFFECTS = 8;

    private static final int ANY = 0, LOCAL = 1, CLASS = 2, N_FIELD = 3, R_FIELD = 4, N_STATIC = 5, R_STATIC = 6;
    private static final int METHOD = 7, LINE = 8, THROW = 9, RESULT = 10;

    /** What a, b and c of each OP, a row each, have to be; N_ of numbers, R_ of references, RESULT a local if there
     *  is a result. OPs go by the document's numbers everywhere, so that both can be read side by side. */
    private static final int[] WANTED = {
        LOCAL, ANY, ANY,
        LOCAL, LOCAL, LOCAL,
        LOCAL, LOCAL, LOCAL,
        LOCAL, LOCAL, LOCAL,
        LOCAL, LOCAL, LOCAL,
        LOCAL, LOCAL, LOCAL,
        LOCAL, ANY, ANY,
        LOCAL, LOCAL, ANY,
        LOCAL, CLASS, ANY,
        LOCAL, LOCAL, ANY,
        LOCAL, LOCAL, N_FIELD,
        LOCAL, LOCAL, N_FIELD,
        LOCAL, LOCAL, R_FIELD,
        LOCAL, LOCAL, R_FIELD,
        LOCAL, LOCAL, LOCAL,
        LOCAL, LOCAL, LOCAL,
        LOCAL, N_STATIC, ANY,
        N_STATIC, LOCAL, ANY,
        LOCAL, R_STATIC, ANY,
        R_STATIC, LOCAL, ANY,
        LOCAL, LOCAL, ANY,
        LOCAL, METHOD, LOCAL,
        LOCAL, ANY, ANY,
        LOCAL, LOCAL, LINE,
        LOCAL, LOCAL, LINE,
        LOCAL, ANY, LINE,
        LOCAL, LOCAL, LINE,
        LOCAL, CLASS, LINE,
        ANY, ANY, LINE,
        LOCAL, CLASS, ANY,
        THROW, ANY, ANY,
        RESULT, ANY, ANY
    };

    private final Program program;
    private final World world;
    private final World before;
    private final World otherEnd;
    private final Foresight foresight;
    private final Machine machine;
    private final Likeness likeness;
    private final Deeds latest;
    private final int[] numberArgs;
    private final int[] thingArgs;
    private boolean analysed;

    public PurityEffects() {
        program = new Program();
        world = new World();
        before = new World();
        otherEnd = new World();
        foresight = new Foresight(program);
        machine = new Machine(program, world, foresight);
        likeness = new Likeness(program, otherEnd, world);
        latest = new Deeds();
        numberArgs = new int[2 * PARAMS];
        thingArgs = new int[2 * PARAMS];
        for (int k = 0; k < 2 * PARAMS; k++) {
            thingArgs[k] = NULL;
        }
    }

    // ---- the program

    public int type(int above) {
        if (above != NULL && !program.isClass(above)) {
            return UNKNOWN;
        }
        if (program.classes >= CLASSES) {
            return ROOM;
        }
        analysed = false;
        return program.addClass(above);
    }

    public int field(int type, boolean reference) {
        if (!program.isClass(type)) {
            return UNKNOWN;
        }
        if (program.fields >= FIELDS) {
            return ROOM;
        }
        if (world.hasObjectBelow(program, type)) {
            return OUTSIDE;
        }
        analysed = false;
        return program.addField(type, reference);
    }

    public int shared(boolean reference) {
        if (program.statics >= STATICS) {
            return ROOM;
        }
        analysed = false;
        world.statics[program.statics] = reference ? NULL : 0;
        return program.addStatic(reference);
    }

    public int method(int p, int q, int result) {
        if (p < 0 || p > PARAMS || q < 0 || q > PARAMS || result < NO_RESULT || result > REFERENCE_RESULT) {
            return OUTSIDE;
        }
        if (program.methods >= METHODS) {
            return ROOM;
        }
        analysed = false;
        return program.addMethod(p, q, result);
    }

    public int line(int method, int op, int a, int b, int c) {
        if (!program.isMethod(method)) {
            return UNKNOWN;
        }
        if (!program.fits(method, op, a, b, c)) {
            return OUTSIDE;
        }
        if (program.lineCounts[method] >= LINES) {
            return ROOM;
        }
        analysed = false;
        return program.addLine(method, op, a, b, c);
    }

    public int caught(int method, int from, int to, int fault, int line) {
        if (!program.isMethod(method)) {
            return UNKNOWN;
        }
        if (from < 0 || from >= to || to > LINES || fault < 0 || fault > LAST_FAULT || line < 0 || line > LINES) {
            return OUTSIDE;
        }
        if (program.catchCounts[method] >= CATCHES) {
            return ROOM;
        }
        analysed = false;
        return program.addCatch(method, from, to, fault, line);
    }

    // ---- the world

    public int thing(int type) {
        if (!program.isClass(type)) {
            return UNKNOWN;
        }
        return world.things >= THINGS ? ROOM : world.make(program, type);
    }

    public int array(int n) {
        if (n < 0 || n > ITEMS) {
            return OUTSIDE;
        }
        return world.things >= THINGS ? ROOM : world.make(program, ARRAY_KIND - n);
    }

    public int put(int thing, int k, int v) {
        if (!world.holds(program, thing, k)) {
            return UNKNOWN;
        }
        if (world.refersAt(program, thing, k) && !world.isThingOrNull(v)) {
            return UNKNOWN;
        }
        world.slots[thing * ROW + k] = v;
        return 1;
    }

    public int set(int shared, int v) {
        if (!program.isStatic(shared)) {
            return UNKNOWN;
        }
        if (program.staticRefers[shared] && !world.isThingOrNull(v)) {
            return UNKNOWN;
        }
        world.statics[shared] = v;
        return 1;
    }

    public int get(int thing, int k) {
        return world.holds(program, thing, k) ? world.slots[thing * ROW + k] : 0;
    }

    public int stat(int shared) {
        return program.isStatic(shared) ? world.statics[shared] : 0;
    }

    public int kind(int thing) {
        return world.isThing(thing) ? world.kinds[thing] : UNKNOWN;
    }

    public int arg(int which, boolean reference, int k, int v) {
        if (which < 0 || which > 1 || k < 0 || k >= PARAMS) {
            return OUTSIDE;
        }
        if (reference && !world.isThingOrNull(v)) {
            return UNKNOWN;
        }
        int[] args = reference ? thingArgs : numberArgs;
        int was = args[which * PARAMS + k];
        args[which * PARAMS + k] = v;
        return was;
    }

    // ---- what may be

    public int analyse() {
        foresight.foresee();
        analysed = true;
        int pure = 0;
        for (int m = 0; m < program.methods; m++) {
            if (foresight.isPure(m)) {
                pure++;
            }
        }
        return pure;
    }

    public int effects(int method, int what) {
        if (!isAnalysed(method)) {
            return UNKNOWN;
        }
        return what < 0 || what >= EFFECTS ? OUTSIDE : foresight.tell(method, what);
    }

    public int by(int method, int way, boolean writes) {
        if (!isAnalysed(method)) {
            return UNKNOWN;
        }
        if (way < 0 || way >= WAYS) {
            return OUTSIDE;
        }
        return (writes ? foresight.writes : foresight.reads)[method * WAYS + way];
    }

    public int may(int method, int line, int r) {
        if (!isAnalysed(method)) {
            return UNKNOWN;
        }
        if (line < 0 || line >= program.lineCounts[method] || r < 0 || r >= LOCALS) {
            return UNKNOWN;
        }
        return Foresight.mayOf(foresight.before[method * LINES + line], r);
    }

    public int free(int a, int b) {
        if (!isAnalysed(a) || !isAnalysed(b)) {
            return UNKNOWN;
        }
        return foresight.isOrderFree(a, b) ? 1 : 0;
    }

    private boolean isAnalysed(int method) {
        return analysed && program.isMethod(method);
    }

    // ---- the machine

    public int run(int method) {
        if (!program.isMethod(method)) {
            return UNKNOWN;
        }
        before.copyFrom(world);
        int end = machine.go(method, numberArgs, thingArgs, 0, analysed);
        if (end == FULL) {
            world.copyFrom(before);
        } else {
            latest.copyFrom(machine.deeds);
        }
        return end;
    }

    public int did(int what) {
        return what < 0 || what >= DEEDS ? OUTSIDE : latest.tell(what);
    }

    public int foreseen() {
        return latest.surprising ? 0 : 1;
    }

    public int both(int a, int b) {
        if (!program.isMethod(a) || !program.isMethod(b)) {
            return UNKNOWN;
        }
        before.copyFrom(world);
        boolean ended = tryOne(a, 0, likeness.endsOne) && tryOne(b, 1, likeness.endsOne);
        if (ended) {
            otherEnd.copyFrom(world);
            world.copyFrom(before);
            ended = tryOne(b, 1, likeness.endsTwo) && tryOne(a, 0, likeness.endsTwo);
        }
        int answer = FULL;
        if (ended) {
            answer = likeness.areAlike(a, b, before.things) ? 1 : 0;
        }
        world.copyFrom(before);
        return answer;
    }

    private boolean tryOne(int method, int which, int[] ends) {
        int end = machine.go(method, numberArgs, thingArgs, which * PARAMS, false);
        ends[which * 2] = end;
        ends[which * 2 + 1] = machine.deeds.result;
        return end != FULL;
    }

    public int printed(int k) {
        return k >= 0 && k < PRINTED && k < world.printedInAll ? world.kept[k] : 0;
    }

    public int count(int what) {
        switch (what) {
            case 0: return program.classes;
            case 1: return program.fields;
            case 2: return program.statics;
            case 3: return program.methods;
            case 4: return world.things;
            case 5: return world.printedInAll;
            case 6: return analysed ? 1 : 0;
            default: return OUTSIDE;
        }
    }

    /** The classes, fields, statics and methods that were told. */
    private static final class Program {
        int classes;
        int fields;
        int statics;
        int methods;
        /** Bits of the class itself and of all above it. */
        final int[] upward = new int[CLASSES];
        /** Bits of the fields that an object of the class has. */
        final int[] fieldsOf = new int[CLASSES];
        final boolean[] fieldRefers = new boolean[FIELDS];
        final boolean[] staticRefers = new boolean[STATICS];
        final int[] numberParams = new int[METHODS];
        final int[] thingParams = new int[METHODS];
        final int[] results = new int[METHODS];
        final int[] lineCounts = new int[METHODS];
        final int[] ops = new int[METHODS * LINES];
        final int[] as = new int[METHODS * LINES];
        final int[] bs = new int[METHODS * LINES];
        final int[] cs = new int[METHODS * LINES];
        final int[] catchCounts = new int[METHODS];
        /** Of each catch: from, to, fault, line. */
        final int[] catches = new int[METHODS * CATCHES * 4];

        boolean isClass(int type) {
            return type >= 0 && type < classes;
        }

        boolean isStatic(int shared) {
            return shared >= 0 && shared < statics;
        }

        boolean isMethod(int method) {
            return method >= 0 && method < methods;
        }

        boolean isBelow(int type, int top) {
            return (upward[type] >> top & 1) == 1;
        }

        int addClass(int above) {
            int own = 1 << classes;
            upward[classes] = above == NULL ? own : own | upward[above];
            fieldsOf[classes] = above == NULL ? 0 : fieldsOf[above];
            return classes++;
        }

        int addField(int type, boolean reference) {
            fieldRefers[fields] = reference;
            for (int t = 0; t < classes; t++) {
                if (isBelow(t, type)) {
                    fieldsOf[t] |= 1 << fields;
                }
            }
            return fields++;
        }

        int addStatic(boolean reference) {
            staticRefers[statics] = reference;
            return statics++;
        }

        int addMethod(int p, int q, int result) {
            numberParams[methods] = p;
            thingParams[methods] = q;
            results[methods] = result;
            return methods++;
        }

        int addLine(int method, int op, int a, int b, int c) {
            int at = method * LINES + lineCounts[method];
            ops[at] = op;
            as[at] = a;
            bs[at] = b;
            cs[at] = c;
            return lineCounts[method]++;
        }

        int addCatch(int method, int from, int to, int fault, int line) {
            int at = (method * CATCHES + catchCounts[method]) * 4;
            catches[at] = from;
            catches[at + 1] = to;
            catches[at + 2] = fault;
            catches[at + 3] = line;
            return catchCounts[method]++;
        }

        /** The line at which a method goes on after a fault, or NULL without a catch. */
        int catchLine(int method, int line, int fault) {
            for (int k = 0; k < catchCounts[method]; k++) {
                int at = (method * CATCHES + k) * 4;
                boolean has = catches[at] <= line && line < catches[at + 1];
                if (has && (catches[at + 2] == 0 || catches[at + 2] == fault)) {
                    return catches[at + 3];
                }
            }
            return NULL;
        }

        boolean fits(int method, int op, int a, int b, int c) {
            if (op < 0 || op > LAST_OP) {
                return false;
            }
            int row = op * 3;
            if (!suits(WANTED[row], method, a) || !suits(WANTED[row + 1], method, b) || !suits(WANTED[row + 2], method, c)) {
                return false;
            }
            return WANTED[row + 1] != METHOD || a + numberParams[b] <= LOCALS && c + thingParams[b] <= LOCALS;
        }

        private boolean suits(int wanted, int method, int x) {
            switch (wanted) {
                case LOCAL: return isLocal(x);
                case CLASS: return isClass(x);
                case N_FIELD: return isFieldOf(x, false);
                case R_FIELD: return isFieldOf(x, true);
                case N_STATIC: return isStatic(x) && !staticRefers[x];
                case R_STATIC: return isStatic(x) && staticRefers[x];
                case METHOD: return isMethod(x);
                case LINE: return x >= 0 && x <= LINES;
                case THROW: return x >= 0 && x < THROWN;
                case RESULT: return results[method] == NO_RESULT || isLocal(x);
                default: return true;
            }
        }

        private boolean isLocal(int x) {
            return x >= 0 && x < LOCALS;
        }

        private boolean isFieldOf(int x, boolean reference) {
            return x >= 0 && x < fields && fieldRefers[x] == reference;
        }
    }

    /** The things, the statics and what was printed. */
    private static final class World {
        int things;
        int printedInAll;
        /** The class of an object; of an array ARRAY_KIND less how many items. */
        final int[] kinds = new int[THINGS];
        /** Of each thing a row of fields by their numbers, or of items. */
        final int[] slots = new int[THINGS * ROW];
        final int[] statics = new int[STATICS];
        final int[] kept = new int[PRINTED];

        void copyFrom(World from) {
            things = from.things;
            printedInAll = from.printedInAll;
            System.arraycopy(from.kinds, 0, kinds, 0, things);
            System.arraycopy(from.slots, 0, slots, 0, things * ROW);
            System.arraycopy(from.statics, 0, statics, 0, STATICS);
            System.arraycopy(from.kept, 0, kept, 0, Math.min(printedInAll, PRINTED));
        }

        boolean isThing(int thing) {
            return thing >= 0 && thing < things;
        }

        boolean isThingOrNull(int thing) {
            return thing == NULL || isThing(thing);
        }

        /** How many items an array has; below 0 for an object. */
        int itemsOf(int thing) {
            return ARRAY_KIND - kinds[thing];
        }

        boolean isArray(int thing) {
            return kinds[thing] <= ARRAY_KIND;
        }

        boolean isObjectBelow(Program program, int thing, int type) {
            return thing != NULL && !isArray(thing) && program.isBelow(kinds[thing], type);
        }

        boolean hasField(Program program, int thing, int field) {
            return !isArray(thing) && (program.fieldsOf[kinds[thing]] >> field & 1) == 1;
        }

        boolean hasObjectBelow(Program program, int type) {
            for (int t = 0; t < things; t++) {
                if (isObjectBelow(program, t, type)) {
                    return true;
                }
            }
            return false;
        }

        boolean holds(Program program, int thing, int k) {
            if (!isThing(thing) || k < 0) {
                return false;
            }
            return isArray(thing) ? k < itemsOf(thing) : k < program.fields && hasField(program, thing, k);
        }

        boolean refersAt(Program program, int thing, int k) {
            return !isArray(thing) && program.fieldRefers[k];
        }

        /** The caller has looked whether there is room. */
        int make(Program program, int kind) {
            boolean isObject = kind > ARRAY_KIND;
            kinds[things] = kind;
            for (int k = 0; k < ROW; k++) {
                slots[things * ROW + k] = isObject && program.fieldRefers[k] ? NULL : 0;
            }
            return things++;
        }

        void print(int number) {
            if (printedInAll < PRINTED) {
                kept[printedInAll] = number;
            }
            printedInAll++;
        }
    }

    /** What may be: grows from nothing, round by round, until no rule adds anything. */
    private static final class Foresight {
        final Program program;
        /** Before each line what each local may be, MAY_BITS a local; 0 as long as it is not reached. */
        final long[] before = new long[METHODS * LINES];
        final int[] reads = new int[METHODS * WAYS];
        final int[] writes = new int[METHODS * WAYS];
        final int[] faults = new int[METHODS];
        final int[] results = new int[METHODS];
        final boolean[] prints = new boolean[METHODS];
        final boolean[] ends = new boolean[METHODS];
        private boolean changed;

        Foresight(Program program) {
            this.program = program;
        }

        static int mayOf(long state, int r) {
            return (int) (state >>> r * MAY_BITS) & MAY_ALL;
        }

        private static long with(long state, int r, int may) {
            int shift = r * MAY_BITS;
            return state & ~((long) MAY_ALL << shift) | (long) may << shift;
        }

        boolean isPure(int m) {
            return allWays(writes, m) == 0 && !prints[m];
        }

        boolean isOrderFree(int a, int b) {
            int touchedA = allWays(reads, a) | allWays(writes, a);
            int touchedB = allWays(reads, b) | allWays(writes, b);
            boolean apart = (allWays(writes, a) & touchedB) == 0 && (allWays(writes, b) & touchedA) == 0;
            return apart && !(prints[a] && prints[b]);
        }

        int tell(int m, int what) {
            switch (what) {
                case 0: return allWays(reads, m);
                case 1: return allWays(writes, m);
                case 2: return prints[m] ? 1 : 0;
                case 3: return faults[m];
                case 4: return results[m];
                case 5: return isPure(m) ? 1 : 0;
                case 6: return isRepeatable(m) ? 1 : 0;
                default: return ends[m] ? 1 : 0;
            }
        }

        private boolean isRepeatable(int m) {
            return isPure(m) && allWays(reads, m) == 0 && program.results[m] != REFERENCE_RESULT;
        }

        private static int allWays(int[] places, int m) {
            int at = m * WAYS;
            return places[at] | places[at + 1] | places[at + 2] | places[at + 3];
        }

        void foresee() {
            forget();
            changed = true;
            // each round but the last adds one of some 13,000 bits
            for (int round = 0; round < 100000 && changed; round++) {
                changed = false;
                for (int m = 0; m < program.methods; m++) {
                    reach(m, 0, beginning(m));
                    for (int l = 0; l < program.lineCounts[m]; l++) {
                        weigh(m, l);
                    }
                }
            }
        }

        private void forget() {
            for (int i = 0; i < METHODS * LINES; i++) {
                before[i] = 0;
            }
            for (int i = 0; i < METHODS * WAYS; i++) {
                reads[i] = 0;
                writes[i] = 0;
            }
            for (int m = 0; m < METHODS; m++) {
                faults[m] = 0;
                results[m] = 0;
                prints[m] = false;
                ends[m] = false;
            }
        }

        private long beginning(int m) {
            long state = 0;
            for (int r = 0; r < LOCALS; r++) {
                int may = r < program.thingParams[m] ? MAY_NULL | MAY_PARAM << r : MAY_NULL;
                state = with(state, r, may);
            }
            return state;
        }

        private void reach(int m, int l, long state) {
            if (l >= program.lineCounts[m]) {
                end(m, MAY_NULL);
                return;
            }
            int at = m * LINES + l;
            long joined = before[at] | state;
            if (joined != before[at]) {
                before[at] = joined;
                changed = true;
            }
        }

        private void end(int m, int result) {
            if (!ends[m]) {
                ends[m] = true;
                changed = true;
            }
            if (program.results[m] == REFERENCE_RESULT) {
                add(results, m, result);
            }
        }

        private void add(int[] row, int at, int bits) {
            int joined = row[at] | bits;
            if (joined != row[at]) {
                row[at] = joined;
                changed = true;
            }
        }

        private void mayPrint(int m) {
            if (!prints[m]) {
                prints[m] = true;
                changed = true;
            }
        }

        /** Each fault comes with all as it was before the line. */
        private void mayThrow(int m, int l, int thrown) {
            for (int fault = 1; fault <= LAST_FAULT; fault++) {
                if ((thrown >> fault & 1) == 1) {
                    int to = program.catchLine(m, l, fault);
                    if (to == NULL) {
                        add(faults, m, 1 << fault);
                    } else {
                        reach(m, to, before[m * LINES + l]);
                    }
                }
            }
        }

        /** Places touched by what a local may be; by way of null and of what is new they do not count. */
        private void mayTouch(int[] row, int m, int may, int places) {
            for (int k = 0; k < PARAMS; k++) {
                if ((may & MAY_PARAM << k) != 0) {
                    add(row, m * WAYS + k, places);
                }
            }
            if ((may & MAY_OLD) != 0) {
                add(row, m * WAYS + OLD_WAY, places);
            }
        }

        private void weigh(int m, int l) {
            int at = m * LINES + l;
            long state = before[at];
            if (state == 0) {
                return;
            }
            int op = program.ops[at];
            int thrown = 0;
            if (op >= 10 && op <= 15 || op == 20) {
                thrown = weighPart(m, l, state);
            } else if (op >= 16 && op <= 19) {
                weighStatic(m, l, state);
            } else if (op == 21) {
                thrown = weighCall(m, l, state);
            } else if (op == 28) {
                reach(m, program.cs[at], state);
            } else if (op >= 23 && op <= 27) {
                weighBranch(m, l, state);
            } else if (op >= 29) {
                thrown = weighCheckOrEnd(m, l, state);
            } else {
                thrown = weighPlain(m, l, state);
            }
            mayThrow(m, l, thrown);
        }

        /** This and the others like it answer the faults that the line may throw, as bits. */
        private int weighPlain(int m, int l, long state) {
            int at = m * LINES + l;
            int a = program.as[at];
            long next = state;
            int thrown = 0;
            switch (program.ops[at]) {
                case 4:
                case 5:
                    thrown = 1 << BY_ZERO;
                    break;
                case 6:
                    next = with(state, a, MAY_NULL);
                    break;
                case 7:
                    next = with(state, a, mayOf(state, program.bs[at]));
                    break;
                case 8:
                    next = with(state, a, MAY_NEW);
                    break;
                case 9:
                    thrown = 1 << BELOW_ZERO;
                    next = with(state, a, MAY_NEW);
                    break;
                case 22:
                    mayPrint(m);
                    break;
                default:
                    break;
            }
            reach(m, l + 1, next);
            return thrown;
        }

        private int weighPart(int m, int l, long state) {
            int at = m * LINES + l;
            int op = program.ops[at];
            boolean isWrite = op == 11 || op == 13 || op == 15;
            boolean isItem = op == 14 || op == 15;
            int holder = isWrite ? program.as[at] : program.bs[at];
            int may = mayOf(state, holder);
            int something = may & ~MAY_NULL;
            int thrown = something == may ? 0 : 1 << AT_NULL;
            if (something == 0) {
                return thrown;
            }
            if (op != 20) {
                mayTouch(isWrite ? writes : reads, m, something, 1 << (isItem ? ITEM_PLACE : program.cs[at]));
            }
            // the holder is narrowed first: 12 may put what it found over it
            long next = with(state, holder, something);
            reach(m, l + 1, op == 12 ? with(next, program.as[at], MAY_NULL | MAY_OLD) : next);
            return thrown | 1 << OTHER_KIND | (isItem ? 1 << NO_ITEM : 0);
        }

        private void weighStatic(int m, int l, long state) {
            int at = m * LINES + l;
            int op = program.ops[at];
            boolean isWrite = op == 17 || op == 19;
            int shared = isWrite ? program.as[at] : program.bs[at];
            mayTouch(isWrite ? writes : reads, m, MAY_OLD, 1 << STATIC_PLACE + shared);
            reach(m, l + 1, op == 18 ? with(state, program.as[at], MAY_NULL | MAY_OLD) : state);
        }

        private int weighCall(int m, int l, long state) {
            int at = m * LINES + l;
            int called = program.bs[at];
            int c = program.cs[at];
            for (int k = 0; k < program.thingParams[called]; k++) {
                int may = mayOf(state, c + k);
                mayTouch(reads, m, may, reads[called * WAYS + k]);
                mayTouch(writes, m, may, writes[called * WAYS + k]);
            }
            mayTouch(reads, m, MAY_OLD, reads[called * WAYS + OLD_WAY]);
            mayTouch(writes, m, MAY_OLD, writes[called * WAYS + OLD_WAY]);
            if (prints[called]) {
                mayPrint(m);
            }
            if (ends[called]) {
                boolean refers = program.results[called] == REFERENCE_RESULT;
                reach(m, l + 1, refers ? with(state, c, resultThere(called, c, state)) : state);
            }
            return faults[called];
        }

        private int resultThere(int called, int c, long state) {
            int result = results[called];
            int may = result & (MAY_NULL | MAY_NEW | MAY_OLD);
            for (int k = 0; k < program.thingParams[called]; k++) {
                if ((result & MAY_PARAM << k) != 0) {
                    may |= mayOf(state, c + k);
                }
            }
            return may;
        }

        private void weighBranch(int m, int l, long state) {
            int at = m * LINES + l;
            int op = program.ops[at];
            int a = program.as[at];
            int may = mayOf(state, a);
            int something = may & ~MAY_NULL;
            long there = state;
            long behind = state;
            if (op == 25) {
                there = something == may ? 0 : with(state, a, MAY_NULL);
                behind = something == 0 ? 0 : with(state, a, something);
            } else if (op == 27) {
                there = something == 0 ? 0 : with(state, a, something);
            }
            if (there != 0) {
                reach(m, program.cs[at], there);
            }
            if (behind != 0) {
                reach(m, l + 1, behind);
            }
        }

        private int weighCheckOrEnd(int m, int l, long state) {
            int at = m * LINES + l;
            int a = program.as[at];
            switch (program.ops[at]) {
                case 29:
                    reach(m, l + 1, state);
                    return mayOf(state, a) == MAY_NULL ? 0 : 1 << OTHER_KIND;
                case 30:
                    return 1 << FIRST_THROWN + a;
                default:
                    end(m, program.results[m] == REFERENCE_RESULT ? mayOf(state, a) : 0);
                    return 0;
            }
        }
    }

    /** What a run did. */
    private static final class Deeds {
        int reads;
        int writes;
        int prints;
        int lines;
        int made;
        int result;
        int fault;
        /** Whether something was done that was not foreseen. */
        boolean surprising;

        void clear() {
            reads = 0;
            writes = 0;
            prints = 0;
            lines = 0;
            made = 0;
            result = 0;
            fault = 0;
            surprising = false;
        }

        void copyFrom(Deeds from) {
            reads = from.reads;
            writes = from.writes;
            prints = from.prints;
            lines = from.lines;
            made = from.made;
            result = from.result;
            fault = from.fault;
            surprising = from.surprising;
        }

        int tell(int what) {
            switch (what) {
                case 0: return reads;
                case 1: return writes;
                case 2: return prints;
                case 3: return lines;
                case 4: return made;
                default: return result;
            }
        }
    }

    /** Runs methods in a world; lines answer 0, the fault that they throw, or FULL. */
    private static final class Machine {
        final Program program;
        final World world;
        final Foresight foresight;
        final Deeds deeds = new Deeds();
        /** Of each method that is within: which, its line, its locals. */
        private final int[] methodAt = new int[DEPTH];
        private final int[] lineAt = new int[DEPTH];
        private final int[] numbers = new int[DEPTH * LOCALS];
        private final int[] refs = new int[DEPTH * LOCALS];
        private int depth;
        private int faultLines;
        /** How many things were there ahead of the run. */
        private int there;
        private boolean watched;
        private final int[] given = new int[PARAMS];

        Machine(Program program, World world, Foresight foresight) {
            this.program = program;
            this.world = world;
            this.foresight = foresight;
        }

        /** A run whose args begin at first; watched: held against what was foreseen. */
        int go(int method, int[] numberArgs, int[] thingArgs, int first, boolean watched) {
            deeds.clear();
            depth = 0;
            faultLines = 0;
            there = world.things;
            this.watched = watched;
            enter(method);
            for (int k = 0; k < program.numberParams[method]; k++) {
                numbers[k] = numberArgs[first + k];
            }
            for (int k = 0; k < program.thingParams[method]; k++) {
                refs[k] = thingArgs[first + k];
                given[k] = thingArgs[first + k];
            }
            int outcome = 0;
            // a step is a line, or the end of a method that a line called
            for (int step = 0; step < 3 * LINES_DONE && depth > 0 && outcome != FULL; step++) {
                outcome = doNext();
                if (outcome > 0) {
                    outcome = comeToCatch(outcome);
                }
            }
            if (depth > 0) {
                return FULL;
            }
            deeds.made = world.things - there;
            holdAgainst(method);
            return deeds.fault;
        }

        private void holdAgainst(int method) {
            boolean printing = deeds.prints > 0 && !foresight.prints[method];
            boolean faulting = deeds.fault > 0 && (foresight.faults[method] >> deeds.fault & 1) == 0;
            if (watched && (printing || faulting)) {
                deeds.surprising = true;
            }
        }

        private void enter(int method) {
            methodAt[depth] = method;
            lineAt[depth] = 0;
            for (int k = depth * LOCALS; k < (depth + 1) * LOCALS; k++) {
                numbers[k] = 0;
                refs[k] = NULL;
            }
            depth++;
        }

        private void leave(int result) {
            int kind = program.results[methodAt[depth - 1]];
            depth--;
            if (depth == 0) {
                deeds.result = kind == NO_RESULT ? 0 : result;
                return;
            }
            int at = methodAt[depth - 1] * LINES + lineAt[depth - 1];
            if (kind == NUMBER_RESULT) {
                numbers[locals() + program.as[at]] = result;
            } else if (kind == REFERENCE_RESULT) {
                refs[locals() + program.cs[at]] = result;
            }
            goOn();
        }

        private int comeToCatch(int fault) {
            for (int level = 0; level < DEPTH && depth > 0; level++) {
                faultLines++;
                if (faultLines > FAULT_LINES) {
                    return FULL;
                }
                int to = program.catchLine(methodAt[depth - 1], lineAt[depth - 1], fault);
                if (to != NULL) {
                    return goOnAt(to);
                }
                depth--;
            }
            deeds.fault = fault;
            return 0;
        }

        private int locals() {
            return (depth - 1) * LOCALS;
        }

        private int goOn() {
            lineAt[depth - 1]++;
            return 0;
        }

        private int goOnAt(int line) {
            lineAt[depth - 1] = line;
            return 0;
        }

        private int doNext() {
            int method = methodAt[depth - 1];
            int line = lineAt[depth - 1];
            if (line >= program.lineCounts[method]) {
                leave(program.results[method] == REFERENCE_RESULT ? NULL : 0);
                return 0;
            }
            if (deeds.lines >= LINES_DONE) {
                return FULL;
            }
            deeds.lines++;
            int at = method * LINES + line;
            int op = program.ops[at];
            if (op <= 5) {
                return doNumbers(at, op);
            }
            if (op <= 9) {
                return doReferences(at, op);
            }
            if (op <= 13) {
                return doField(at, op);
            }
            if (op <= 15) {
                return doItem(at, op);
            }
            if (op <= 19) {
                return doStatic(at, op);
            }
            if (op == 20) {
                return doSize(at);
            }
            if (op == 21) {
                return doCall(at);
            }
            if (op == 22) {
                return doPrint(at);
            }
            if (op <= 28) {
                return holds(at, op) ? goOnAt(program.cs[at]) : goOn();
            }
            return doCheckOrEnd(at, op);
        }

        private int doNumbers(int at, int op) {
            int to = locals() + program.as[at];
            if (op == 0) {
                numbers[to] = program.cs[at];
                return goOn();
            }
            int b = numbers[locals() + program.bs[at]];
            int c = numbers[locals() + program.cs[at]];
            if (op >= 4 && c == 0) {
                return BY_ZERO;
            }
            switch (op) {
                case 1: numbers[to] = b + c; break;
                case 2: numbers[to] = b - c; break;
                case 3: numbers[to] = b * c; break;
                case 4: numbers[to] = b / c; break;
                default: numbers[to] = b % c; break;
            }
            return goOn();
        }

        private int doReferences(int at, int op) {
            int to = locals() + program.as[at];
            if (op == 6) {
                refs[to] = NULL;
                return goOn();
            }
            if (op == 7) {
                refs[to] = refs[locals() + program.bs[at]];
                return goOn();
            }
            int kind = program.bs[at];
            if (op == 9) {
                int n = numbers[locals() + program.bs[at]];
                if (n < 0) {
                    return BELOW_ZERO;
                }
                if (n > ITEMS) {
                    return FULL;
                }
                kind = ARRAY_KIND - n;
            }
            if (world.things >= THINGS) {
                return FULL;
            }
            refs[to] = world.make(program, kind);
            return goOn();
        }

        private int doField(int at, int op) {
            boolean isWrite = op == 11 || op == 13;
            int a = locals() + program.as[at];
            int b = locals() + program.bs[at];
            int field = program.cs[at];
            int holder = refs[isWrite ? a : b];
            if (holder == NULL) {
                return AT_NULL;
            }
            if (!world.hasField(program, holder, field)) {
                return OTHER_KIND;
            }
            int slot = holder * ROW + field;
            switch (op) {
                case 10: numbers[a] = world.slots[slot]; break;
                case 11: world.slots[slot] = numbers[b]; break;
                case 12: refs[a] = world.slots[slot]; break;
                default: world.slots[slot] = refs[b]; break;
            }
            note(holder, field, isWrite);
            return goOn();
        }

        private int doItem(int at, int op) {
            boolean isWrite = op == 15;
            int a = program.as[at];
            int b = program.bs[at];
            int c = locals() + program.cs[at];
            int holder = refs[locals() + (isWrite ? a : b)];
            if (holder == NULL) {
                return AT_NULL;
            }
            if (!world.isArray(holder)) {
                return OTHER_KIND;
            }
            int item = numbers[isWrite ? locals() + b : c];
            if (item < 0 || item >= world.itemsOf(holder)) {
                return NO_ITEM;
            }
            if (isWrite) {
                world.slots[holder * ROW + item] = numbers[c];
            } else {
                numbers[locals() + a] = world.slots[holder * ROW + item];
            }
            note(holder, ITEM_PLACE, isWrite);
            return goOn();
        }

        private int doStatic(int at, int op) {
            int a = program.as[at];
            int b = program.bs[at];
            switch (op) {
                case 16: numbers[locals() + a] = world.statics[b]; break;
                case 17: world.statics[a] = numbers[locals() + b]; break;
                case 18: refs[locals() + a] = world.statics[b]; break;
                default: world.statics[a] = refs[locals() + b]; break;
            }
            boolean isWrite = op == 17 || op == 19;
            note(NULL, STATIC_PLACE + (isWrite ? a : b), isWrite);
            return goOn();
        }

        private int doSize(int at) {
            int holder = refs[locals() + program.bs[at]];
            if (holder == NULL) {
                return AT_NULL;
            }
            if (!world.isArray(holder)) {
                return OTHER_KIND;
            }
            numbers[locals() + program.as[at]] = world.itemsOf(holder);
            return goOn();
        }

        private int doCall(int at) {
            if (depth >= DEPTH) {
                return FULL;
            }
            int called = program.bs[at];
            int firstNumber = locals() + program.as[at];
            int firstThing = locals() + program.cs[at];
            enter(called);
            for (int k = 0; k < program.numberParams[called]; k++) {
                numbers[locals() + k] = numbers[firstNumber + k];
            }
            for (int k = 0; k < program.thingParams[called]; k++) {
                refs[locals() + k] = refs[firstThing + k];
            }
            return 0;
        }

        private int doPrint(int at) {
            world.print(numbers[locals() + program.as[at]]);
            deeds.prints++;
            return goOn();
        }

        /** Whether a line of 23 to 28 goes on at its c. Only what the OP wants is looked at: other operands may be
         *  any numbers. */
        private boolean holds(int at, int op) {
            int a = program.as[at];
            int b = program.bs[at];
            switch (op) {
                case 23: return numbers[locals() + a] < numbers[locals() + b];
                case 24: return numbers[locals() + a] == numbers[locals() + b];
                case 25: return refs[locals() + a] == NULL;
                case 26: return refs[locals() + a] == refs[locals() + b];
                case 27: return world.isObjectBelow(program, refs[locals() + a], b);
                default: return true;
            }
        }

        private int doCheckOrEnd(int at, int op) {
            int a = program.as[at];
            if (op == 29) {
                int thing = refs[locals() + a];
                boolean passes = thing == NULL || world.isObjectBelow(program, thing, program.bs[at]);
                return passes ? goOn() : OTHER_KIND;
            }
            if (op == 30) {
                return FIRST_THROWN + a;
            }
            int kind = program.results[methodAt[depth - 1]];
            if (kind == NO_RESULT) {
                leave(0);
            } else {
                leave(kind == NUMBER_RESULT ? numbers[locals() + a] : refs[locals() + a]);
            }
            return 0;
        }

        /** A place of a thing (NULL: a static) was read or written. */
        private void note(int thing, int place, boolean isWrite) {
            if (thing >= there) {
                return;
            }
            int bit = 1 << place;
            if (isWrite) {
                deeds.writes |= bit;
            } else {
                deeds.reads |= bit;
            }
            if (watched && (foreseenOf(thing, isWrite) & bit) == 0) {
                deeds.surprising = true;
            }
        }

        private int foreseenOf(int thing, boolean isWrite) {
            int method = methodAt[0];
            int[] row = isWrite ? foresight.writes : foresight.reads;
            int places = row[method * WAYS + OLD_WAY];
            for (int k = 0; k < program.thingParams[method]; k++) {
                if (thing != NULL && given[k] == thing) {
                    places |= row[method * WAYS + k];
                }
            }
            return places;
        }
    }

    /** Two ends of two methods held against one another. */
    private static final class Likeness {
        final Program program;
        final World one;
        final World two;
        /** Of the first, then of the second method: its fault, its result. */
        final int[] endsOne = new int[4];
        final int[] endsTwo = new int[4];
        /** Of each thing made in one end, the one that was met likewise in the other; NULL before. */
        private final int[] inTwo = new int[THINGS];
        private final int[] inOne = new int[THINGS];
        private final int[] met = new int[THINGS];
        private int metCount;
        private int there;

        Likeness(Program program, World one, World two) {
            this.program = program;
            this.one = one;
            this.two = two;
        }

        boolean areAlike(int a, int b, int there) {
            this.there = there;
            metCount = 0;
            for (int t = 0; t < THINGS; t++) {
                inTwo[t] = NULL;
                inOne[t] = NULL;
            }
            if (!printedAlike() || !staticsAlike()) {
                return false;
            }
            for (int t = 0; t < there; t++) {
                if (!heldAlike(t, t)) {
                    return false;
                }
            }
            return endedAlike(a, 0) && endedAlike(b, 1) && metAlike();
        }

        private boolean printedAlike() {
            if (one.printedInAll != two.printedInAll) {
                return false;
            }
            for (int k = 0; k < PRINTED && k < one.printedInAll; k++) {
                if (one.kept[k] != two.kept[k]) {
                    return false;
                }
            }
            return true;
        }

        private boolean staticsAlike() {
            for (int s = 0; s < program.statics; s++) {
                if (!valuesAlike(program.staticRefers[s], one.statics[s], two.statics[s])) {
                    return false;
                }
            }
            return true;
        }

        private boolean endedAlike(int method, int which) {
            int fault = endsOne[which * 2];
            if (fault != endsTwo[which * 2]) {
                return false;
            }
            boolean refers = fault == 0 && program.results[method] == REFERENCE_RESULT;
            return valuesAlike(refers, endsOne[which * 2 + 1], endsTwo[which * 2 + 1]);
        }

        /** Things that were met may lead to others, which stand behind them in the row then. */
        private boolean metAlike() {
            for (int k = 0; k < THINGS && k < metCount; k++) {
                if (!heldAlike(met[k], inTwo[met[k]])) {
                    return false;
                }
            }
            return true;
        }

        private boolean heldAlike(int x, int y) {
            for (int k = 0; k < ROW; k++) {
                if (one.holds(program, x, k)) {
                    boolean refers = one.refersAt(program, x, k);
                    if (!valuesAlike(refers, one.slots[x * ROW + k], two.slots[y * ROW + k])) {
                        return false;
                    }
                }
            }
            return true;
        }

        private boolean valuesAlike(boolean refers, int x, int y) {
            if (!refers || x < there || y < there) {
                return x == y;
            }
            if (inTwo[x] == NULL && inOne[y] == NULL) {
                inTwo[x] = y;
                inOne[y] = x;
                met[metCount] = x;
                metCount++;
                return one.kinds[x] == two.kinds[y];
            }
            return inTwo[x] == y;
        }
    }
}
