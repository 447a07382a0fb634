/**
 * Rows of acts with jumps, read back as statements that lie in one another, written as rows of
 * acts again, and run. The words in capitals are those of the document.
 */
public final class StoryDecompile {
    public static final int NONE = -1, BAD = -2, NO = -3, FULL = -4;

    private static final int MAX_ROUTINES = 12, MAX_ACTS = 60, MAX_TAPE = 300, MAX_OUT = 200;
    private static final int MAX_STEPS = 10000, MAX_CALLS = 8, REGISTERS = 4, COMPARISONS = 6;

    /** Each ACT makes the BODIES that lie in one another one more at most; the TREE is one too. */
    private static final int MAX_BODIES = MAX_ACTS + 1;

    /** No STATEMENT has more than four numbers for each of its ACTS; the TREE's count is one more. */
    private static final int MAX_TEXT = 4 * MAX_ACTS + 1;

    /** Kinds of ACTS. */
    private static final int SAY = 0, ADD = 1, GO = 2, TEST = 3, DONE = 4, CALL = 5;

    /** Kinds of STATEMENTS. */
    private static final int PLAIN = 0, IF = 1, IF_ELSE = 2, LOOP = 3, WHILE = 4, DO = 5;
    private static final int BREAK = 6, AGAIN = 7, JUMP = 8;
    private static final int BREAK_IF = 9, AGAIN_IF = 10, JUMP_IF = 11;

    /** FAULTS of THE TAPE. */
    private static final int NO_FAULT = 0, TAPE_ENDS = 1, NO_KIND_OR_TOO_DEEP = 2, BELOW_NONE = 3;
    private static final int WRONG_ACT = 4, NO_LOOP = 5, WRONG_PLACE = 6;
    private static final int NUMBERS_MORE = 7, TOO_MANY_ACTS = 8, PLACE_TOO_HIGH = 9;
    private static final int FAULT_BASE = -10;

    /** How a run ends. */
    private static final int OVER = 0, NO_STEP_LEFT = 1, NO_SUCH_CALL = 2, TOO_MANY_CALLS = 3, OUT_FULL = 4;

    private final Routine[] routines = new Routine[MAX_ROUTINES];
    private int routineCount = 0;

    private final Reader reader = new Reader();
    /** The ROUTINE whose TREE the reader holds, so that many questions cost one reading. */
    private int readRoutine = NONE;
    private final Reach reach = new Reach();

    private final int[] tape = new int[MAX_TAPE];
    private int tapeLength = 0;
    private final Writer writer = new Writer();
    private int faultPlace = NONE;

    private final int[] firstRegisters = new int[REGISTERS];
    private final Runner runner = new Runner();

    public StoryDecompile() {
    }

    public int routine() {
        return routineCount >= MAX_ROUTINES ? FULL : addRoutine(new Routine());
    }

    public int act(int r, int kind, int a, int b, int c) {
        Routine found = find(r);
        if (found == null || !isAct(kind, a, b, c)) {
            return BAD;
        }
        int i = found.length;
        if (i >= MAX_ACTS) {
            return FULL;
        }
        found.length = i + 1;
        change(found, i, kind, a, b, c);
        return i;
    }

    public int alter(int r, int i, int kind, int a, int b, int c) {
        Routine found = find(r);
        if (found == null || !found.has(i) || !isAct(kind, a, b, c)) {
            return BAD;
        }
        change(found, i, kind, a, b, c);
        return i;
    }

    public int told(int r, int i, int what) {
        Routine found = find(r);
        if (found == null || !found.has(i)) {
            return BAD;
        }
        switch (what) {
            case 0:
                return found.kinds[i];
            case 1:
                return found.as[i];
            case 2:
                return found.bs[i];
            case 3:
                return found.cs[i];
            case 4:
                return found.whole ? treeOf(r, found).statementOf[i] : NONE;
            case 5:
                return found.whole ? cameTo(found, i) : NONE;
            default:
                return BAD;
        }
    }

    public int of(int r, int what) {
        Routine found = find(r);
        if (found == null || what < 0 || what > 7) {
            return BAD;
        }
        if (what >= 3 && !found.whole) {
            return NONE;
        }
        switch (what) {
            case 0:
                return found.length;
            case 1:
                return found.whole ? 1 : 0;
            case 2:
                return leastAlike(r, found);
            case 3:
                return treeOf(r, found).count;
            case 4:
                return treeOf(r, found).jumpCount;
            case 5:
                return neverMet(found);
            case 6:
                return treeOf(r, found).deepest;
            default:
                return callersOf(r);
        }
    }

    public int statement(int r, int s, int what) {
        Routine found = find(r);
        if (found == null || what < 0 || what > 5) {
            return BAD;
        }
        if (!found.whole) {
            return NO;
        }
        Tree tree = treeOf(r, found);
        return tree.has(s) ? tree.tell(s, what) : BAD;
    }

    public int text(int r, int i) {
        Routine found = find(r);
        if (found == null || i < NONE) {
            return BAD;
        }
        if (!found.whole) {
            return NO;
        }
        Tree tree = treeOf(r, found);
        if (i == NONE) {
            return tree.wordCount;
        }
        return i < tree.wordCount ? tree.words[i] : BAD;
    }

    public int feed(int v) {
        if (tapeLength >= MAX_TAPE) {
            return FULL;
        }
        tape[tapeLength] = v;
        tapeLength++;
        return tapeLength;
    }

    public int copy(int r) {
        Routine found = find(r);
        if (found == null) {
            return BAD;
        }
        if (!found.whole) {
            return NO;
        }
        Tree tree = treeOf(r, found);
        if (tree.wordCount > MAX_TAPE - tapeLength) {
            return FULL;
        }
        System.arraycopy(tree.words, 0, tape, tapeLength, tree.wordCount);
        tapeLength += tree.wordCount;
        return tapeLength;
    }

    public int write() {
        if (routineCount >= MAX_ROUTINES) {
            return FULL;
        }
        int found = writer.parse(tape, tapeLength);
        tapeLength = 0;
        if (found != NO_FAULT) {
            faultPlace = writer.place;
            return FAULT_BASE - found;
        }
        Routine written = new Routine();
        written.takeOver(writer.made);
        return addRoutine(written);
    }

    public int fault() {
        return faultPlace;
    }

    public int clear() {
        int had = tapeLength;
        tapeLength = 0;
        return had;
    }

    public int like(int r, int q) {
        Routine one = find(r);
        Routine other = find(q);
        if (one == null || other == null) {
            return BAD;
        }
        return one.isAlike(other) ? 1 : 0;
    }

    public int set(int register, int v) {
        if (register < 0 || register >= REGISTERS) {
            return BAD;
        }
        int was = firstRegisters[register];
        firstRegisters[register] = v;
        return was;
    }

    public int run(int r, int steps) {
        Routine found = find(r);
        if (found == null || steps < 0 || steps > MAX_STEPS) {
            return BAD;
        }
        if (!found.whole) {
            return NO;
        }
        return runner.start(routines, found, firstRegisters, steps);
    }

    public int ran(int what) {
        switch (what) {
            case 0:
                return runner.steps;
            case 1:
                return runner.saidCount;
            case 2:
                return runner.calls;
            case 4:
            case 5:
            case 6:
            case 7:
                return runner.registers[what - 4];
            default:
                return BAD;
        }
    }

    public int out(int i) {
        return i < 0 || i >= runner.saidCount ? BAD : runner.said[i];
    }

    /** The ROUTINE of that number, or null. */
    private Routine find(int r) {
        return r < 0 || r >= routineCount ? null : routines[r];
    }

    private int addRoutine(Routine added) {
        int r = routineCount;
        if (r >= MAX_ROUTINES) {
            return FULL;
        }
        routines[r] = added;
        routineCount = r + 1;
        return r;
    }

    private void change(Routine changed, int i, int kind, int a, int b, int c) {
        changed.put(i, kind, a, b, c);
        changed.judgeWhole();
        readRoutine = NONE;
    }

    private Tree treeOf(int r, Routine found) {
        if (readRoutine != r) {
            reader.readWhole(found);
            readRoutine = r;
        }
        return reader.tree;
    }

    private int cameTo(Routine found, int i) {
        reach.explore(found);
        return reach.met[i];
    }

    private int neverMet(Routine found) {
        reach.explore(found);
        return found.length - reach.metCount;
    }

    private int leastAlike(int r, Routine found) {
        for (int q = 0; q < r; q++) {
            Routine other = find(q);
            if (other != null && other.isAlike(found)) {
                return q;
            }
        }
        return r;
    }

    private int callersOf(int r) {
        int callers = 0;
        for (int q = 0; q < routineCount; q++) {
            Routine caller = find(q);
            if (caller != null && caller.hasCallOf(r)) {
                callers++;
            }
        }
        return callers;
    }

    private static boolean isJump(int kind) {
        return kind == GO || kind == TEST;
    }

    /** Whether an ACT may be so; what it has no use for is not looked at. */
    private static boolean isAct(int kind, int a, int b, int c) {
        return kind >= SAY && kind <= CALL
            && (!usesA(kind) || mayHaveA(kind, a))
            && (!usesB(kind) || mayHaveB(kind, b))
            && (!isJump(kind) || c >= 0 && c <= MAX_ACTS);
    }

    private static boolean usesA(int kind) {
        return kind != GO && kind != DONE;
    }

    private static boolean usesB(int kind) {
        return kind == ADD || kind == TEST;
    }

    /**
     * What may be any number is not held against the lowest and the highest int: the optimising
     * compiler of Java 17.0.15 was seen to turn that comparison into one that fails.
     */
    private static boolean mayHaveA(int kind, int a) {
        switch (kind) {
            case SAY:
                return true;
            case ADD:
            case TEST:
                return a >= 0 && a < REGISTERS;
            case CALL:
                return a >= 0 && a < MAX_ROUTINES;
            default:
                return a == 0;
        }
    }

    private static boolean mayHaveB(int kind, int b) {
        switch (kind) {
            case ADD:
                return true;
            case TEST:
                return b >= 0 && b < COMPARISONS;
            default:
                return b == 0;
        }
    }

    /** A row of ACTS. */
    private static final class Routine {
        final int[] kinds = new int[MAX_ACTS];
        final int[] as = new int[MAX_ACTS];
        final int[] bs = new int[MAX_ACTS];
        final int[] cs = new int[MAX_ACTS];
        int length = 0;
        boolean whole = true;

        boolean has(int i) {
            return i >= 0 && i < length;
        }

        void put(int i, int kind, int a, int b, int c) {
            if (i < 0 || i >= MAX_ACTS) {
                return;
            }
            kinds[i] = kind;
            as[i] = usesA(kind) ? a : 0;
            bs[i] = usesB(kind) ? b : 0;
            cs[i] = isJump(kind) ? c : 0;
        }

        /** Kept rather than asked anew, since a run asks it at every CALL. */
        void judgeWhole() {
            whole = true;
            for (int i = 0; i < length; i++) {
                if (cs[i] > length) {
                    whole = false;
                }
            }
        }

        void takeOver(Routine other) {
            length = other.length;
            for (int i = 0; i < length; i++) {
                put(i, other.kinds[i], other.as[i], other.bs[i], other.cs[i]);
            }
            judgeWhole();
        }

        boolean isAlike(Routine other) {
            if (length != other.length) {
                return false;
            }
            for (int i = 0; i < length; i++) {
                if (kinds[i] != other.kinds[i] || as[i] != other.as[i]
                    || bs[i] != other.bs[i] || cs[i] != other.cs[i]) {
                    return false;
                }
            }
            return true;
        }

        boolean hasCallOf(int r) {
            for (int i = 0; i < length; i++) {
                if (kinds[i] == CALL && as[i] == r) {
                    return true;
                }
            }
            return false;
        }

        /** The last ACT from k up to ahead of end that is a GO or TEST to k, or NONE. */
        int lastJumpTo(int k, int end) {
            for (int i = end - 1; i >= k; i--) {
                if (isJump(kinds[i]) && cs[i] == k) {
                    return i;
                }
            }
            return NONE;
        }
    }

    /** Which ACTS of a ROUTINE are COME TO. */
    private static final class Reach {
        final int[] met = new int[MAX_ACTS];
        final int[] waiting = new int[MAX_ACTS];
        int waitingCount = 0;
        int metCount = 0;

        void explore(Routine source) {
            for (int i = 0; i < MAX_ACTS; i++) {
                met[i] = 0;
            }
            waitingCount = 0;
            metCount = 0;
            meet(source, 0);
            // An ACT waits once only, so there are no more turns than ACTS.
            for (int turn = 0; turn < MAX_ACTS && waitingCount > 0; turn++) {
                waitingCount--;
                follow(source, waiting[waitingCount]);
            }
        }

        private void follow(Routine source, int k) {
            int kind = source.kinds[k];
            if (isJump(kind)) {
                meet(source, source.cs[k]);
            }
            if (kind != GO && kind != DONE) {
                meet(source, k + 1);
            }
        }

        private void meet(Routine source, int k) {
            if (source.has(k) && met[k] == 0) {
                met[k] = 1;
                metCount++;
                waiting[waitingCount] = k;
                waitingCount++;
            }
        }
    }

    /** The STATEMENTS of a ROUTINE, in order, and its TEXT. */
    private static final class Tree {
        final int[] kinds = new int[MAX_ACTS];
        final int[] begins = new int[MAX_ACTS];
        final int[] behinds = new int[MAX_ACTS];
        final int[] parents = new int[MAX_ACTS];
        final int[] bodies = new int[MAX_ACTS];
        final int[] inners = new int[MAX_ACTS];
        final int[] statementOf = new int[MAX_ACTS];
        final int[] words = new int[MAX_TEXT];
        int count = 0;
        int wordCount = 0;
        int jumpCount = 0;
        int deepest = 0;

        void empty() {
            count = 0;
            wordCount = 0;
            jumpCount = 0;
            deepest = 0;
        }

        boolean has(int s) {
            return s >= 0 && s < count;
        }

        int tell(int s, int what) {
            switch (what) {
                case 0:
                    return kinds[s];
                case 1:
                    return begins[s];
                case 2:
                    return behinds[s];
                case 3:
                    return parents[s];
                case 4:
                    return bodies[s];
                default:
                    return inners[s];
            }
        }

        void word(int v) {
            if (wordCount < MAX_TEXT) {
                words[wordCount] = v;
                wordCount++;
            }
        }
    }

    /** Reads a WHOLE ROUTINE; the BODIES that are open lie in rows, so nothing calls itself. */
    private static final class Reader {
        final Tree tree = new Tree();
        private Routine source = null;
        private int depth = 0;
        private final int[] ends = new int[MAX_BODIES];
        private final int[] breaks = new int[MAX_BODIES];
        private final int[] agains = new int[MAX_BODIES];
        private final int[] owners = new int[MAX_BODIES];
        private final int[] sides = new int[MAX_BODIES];
        /** Where in the TEXT it stands how many STATEMENTS a BODY has. */
        private final int[] slots = new int[MAX_BODIES];

        void readWhole(Routine read) {
            source = read;
            tree.empty();
            depth = 0;
            openBody(NONE, NONE, read.length, NONE, NONE);
            int k = 0;
            // A turn begins a STATEMENT or ends one of its two BODIES at most, or the TREE.
            for (int turn = 0; turn < 3 * MAX_ACTS + 1 && depth > 0; turn++) {
                k = k < ends[depth - 1] ? readStatement(k) : closeBody(k);
            }
        }

        private void openBody(int owner, int side, int end, int breakTo, int againTo) {
            if (depth >= MAX_BODIES) {
                return;
            }
            owners[depth] = owner;
            sides[depth] = side;
            ends[depth] = end;
            breaks[depth] = breakTo;
            agains[depth] = againTo;
            slots[depth] = tree.wordCount;
            tree.word(0);
            depth++;
            tree.deepest = Math.max(tree.deepest, depth);
        }

        /** Ends the innermost BODY: the PLACE at which reading goes on. */
        private int closeBody(int k) {
            depth--;
            int s = owners[depth];
            if (s == NONE) {
                return k;
            }
            if (tree.kinds[s] == IF_ELSE && sides[depth] == 0) {
                openBody(s, 1, tree.behinds[s], breaks[depth], agains[depth]);
                // The GO lies between the two BODIES.
                return k + 1;
            }
            tree.inners[s] = tree.count - s - 1;
            return tree.behinds[s];
        }

        /** Each of these answers the PLACE at which reading goes on, in a BODY or behind. */
        private int readStatement(int k) {
            int m = isLoopBegun(k) ? NONE : source.lastJumpTo(k, ends[depth - 1]);
            if (m != NONE) {
                return readLoop(k, m);
            }
            if (!isJump(source.kinds[k])) {
                return readAct(k);
            }
            return isIf(k) ? readIf(k) : readLeap(k);
        }

        /** Only the innermost BODY can begin at k together with its loop: others begin behind an ACT. */
        private boolean isLoopBegun(int k) {
            int s = owners[depth - 1];
            return s != NONE && tree.begins[s] == k && (tree.kinds[s] == LOOP || tree.kinds[s] == DO);
        }

        private int readLoop(int k, int m) {
            if (source.kinds[m] == TEST) {
                int s = begin(DO, k, m + 1, m);
                wordTest(m);
                openBody(s, 0, m, m + 1, m);
                return k;
            }
            if (source.kinds[k] == TEST && source.cs[k] == m + 1) {
                int s = begin(WHILE, k, m + 1, m);
                tree.statementOf[k] = s;
                wordTest(k);
                openBody(s, 0, m, m + 1, k);
                return k + 1;
            }
            int s = begin(LOOP, k, m + 1, m);
            openBody(s, 0, m, m + 1, k);
            return k;
        }

        /** A TEST that leads ahead, but not out of the BODY, as long as it leads to none of B, C. */
        private boolean isIf(int k) {
            int t = source.cs[k];
            return source.kinds[k] == TEST && t > k && t <= ends[depth - 1] && isNeither(t);
        }

        private boolean isNeither(int t) {
            return t != breaks[depth - 1] && t != agains[depth - 1];
        }

        private int readIf(int k) {
            int t = source.cs[k];
            int breakTo = breaks[depth - 1];
            int againTo = agains[depth - 1];
            int e = elseEnd(k, t);
            if (e == NONE) {
                int s = begin(IF, k, t, k);
                wordTest(k);
                openBody(s, 0, t, breakTo, againTo);
                return k + 1;
            }
            int s = begin(IF_ELSE, k, e, k);
            tree.statementOf[t - 1] = s;
            wordTest(k);
            openBody(s, 0, t - 1, breakTo, againTo);
            return k + 1;
        }

        /** Where the second BODY of an IF ELSE ends, or NONE if it is an IF. */
        private int elseEnd(int k, int t) {
            int last = t - 1;
            if (last <= k || source.kinds[last] != GO) {
                return NONE;
            }
            int e = source.cs[last];
            return e > t && e <= ends[depth - 1] && isNeither(e) ? e : NONE;
        }

        /** BREAK, AGAIN, JUMP and the same three, if. */
        private int readLeap(int k) {
            int t = source.cs[k];
            boolean tested = source.kinds[k] == TEST;
            int leap = JUMP;
            if (t == breaks[depth - 1]) {
                leap = BREAK;
            } else if (t == agains[depth - 1]) {
                leap = AGAIN;
            }
            begin(tested ? leap - BREAK + BREAK_IF : leap, k, k + 1, k);
            if (tested) {
                wordTest(k);
            }
            if (leap == JUMP) {
                tree.word(t);
                tree.jumpCount++;
            }
            return k + 1;
        }

        private int readAct(int k) {
            begin(PLAIN, k, k + 1, k);
            tree.word(source.kinds[k]);
            wordTest(k);
            return k + 1;
        }

        /** Begins a STATEMENT, one ACT of which is its own: its number. */
        private int begin(int kind, int from, int behind, int ownAct) {
            int s = tree.count;
            if (s >= MAX_ACTS) {
                return NONE;
            }
            tree.kinds[s] = kind;
            tree.begins[s] = from;
            tree.behinds[s] = behind;
            tree.parents[s] = owners[depth - 1];
            tree.bodies[s] = sides[depth - 1];
            tree.inners[s] = 0;
            tree.statementOf[ownAct] = s;
            tree.count = s + 1;
            tree.words[slots[depth - 1]]++;
            tree.word(kind);
            return s;
        }

        private void wordTest(int k) {
            tree.word(source.as[k]);
            tree.word(source.bs[k]);
        }
    }

    /** Turns THE TAPE into ACTS, or finds its first FAULT. */
    private static final class Writer {
        final Routine made = new Routine();
        /** The next number's place; where a FAULT shows, if there is one. */
        int place = 0;
        private int[] numbers = null;
        private int numberCount = 0;
        private int found = NO_FAULT;
        private int actCount = 0;
        private int highestPlace = 0;
        private int loops = 0;
        /** For each ACT: BREAK or AGAIN, as long as its loop is not over, else NONE. */
        private final int[] awaited = new int[MAX_ACTS];
        private int depth = 0;
        private final int[] left = new int[MAX_BODIES];
        private final int[] kinds = new int[MAX_BODIES];
        private final int[] begins = new int[MAX_BODIES];
        /** The ACT that leads past a BODY and learns where that is when the BODY is over. */
        private final int[] skips = new int[MAX_BODIES];
        private final int[] testAs = new int[MAX_BODIES];
        private final int[] testBs = new int[MAX_BODIES];

        /** The first FAULT; without one the ACTS are in made. */
        int parse(int[] row, int length) {
            numbers = row;
            numberCount = length;
            place = 0;
            found = NO_FAULT;
            actCount = 0;
            highestPlace = 0;
            loops = 0;
            depth = 0;
            openBody(NONE, NONE, 0, 0);
            // A turn takes a number at least, or ends a BODY, and each BODY has taken one.
            for (int turn = 0; turn < 2 * MAX_TAPE + 1 && found == NO_FAULT && depth > 0; turn++) {
                if (left[depth - 1] > 0) {
                    left[depth - 1]--;
                    takeStatement();
                } else {
                    closeBody();
                }
            }
            judgeAll();
            made.length = Math.min(actCount, MAX_ACTS);
            return found;
        }

        private void judgeAll() {
            if (found != NO_FAULT) {
                return;
            }
            if (place < numberCount) {
                found = NUMBERS_MORE;
            } else if (actCount > MAX_ACTS) {
                found = TOO_MANY_ACTS;
            } else if (highestPlace > actCount) {
                found = PLACE_TOO_HIGH;
            }
        }

        /** The next number; behind a FAULT none is taken, so that place stays where it shows. */
        private int take() {
            if (found != NO_FAULT) {
                return 0;
            }
            if (place >= numberCount || place >= MAX_TAPE) {
                found = TAPE_ENDS;
                return 0;
            }
            int v = numbers[place];
            place++;
            return v;
        }

        /** The number taken last shows a FAULT, unless it is right. */
        private void require(boolean right, int otherwise) {
            if (!right && found == NO_FAULT) {
                found = otherwise;
                place--;
            }
        }

        private void takeStatement() {
            int kind = take();
            require(kind >= PLAIN && kind <= JUMP_IF, NO_KIND_OR_TOO_DEEP);
            if (found != NO_FAULT) {
                return;
            }
            switch (kind) {
                case PLAIN:
                    takeAct();
                    break;
                case LOOP:
                    loops++;
                    openBody(LOOP, NONE, 0, 0);
                    break;
                case IF:
                case IF_ELSE:
                case WHILE:
                case DO:
                    takeTested(kind);
                    break;
                default:
                    takeLeap(kind);
                    break;
            }
        }

        private void takeAct() {
            int kind = take();
            require(kind >= SAY && kind <= CALL && !isJump(kind), WRONG_ACT);
            int a = takeA(kind);
            int b = takeB(kind);
            emit(kind, a, b, 0);
        }

        private int takeA(int kind) {
            int a = take();
            require(mayHaveA(kind, a), WRONG_ACT);
            return a;
        }

        private int takeB(int kind) {
            int b = take();
            require(mayHaveB(kind, b), WRONG_ACT);
            return b;
        }

        private int takePlace() {
            int c = take();
            require(c >= 0, WRONG_PLACE);
            highestPlace = Math.max(highestPlace, c);
            return c;
        }

        private void takeTested(int kind) {
            int a = takeA(TEST);
            int b = takeB(TEST);
            if (kind == WHILE || kind == DO) {
                loops++;
            }
            if (kind == DO) {
                openBody(DO, NONE, a, b);
                return;
            }
            openBody(kind, actCount, a, b);
            emit(TEST, a, b, 0);
        }

        /** BREAK, AGAIN, JUMP and the same three, if. */
        private void takeLeap(int kind) {
            boolean tested = kind >= BREAK_IF;
            int leap = tested ? kind - BREAK_IF + BREAK : kind;
            require(leap == JUMP || loops > 0, NO_LOOP);
            int a = tested ? takeA(TEST) : 0;
            int b = tested ? takeB(TEST) : 0;
            int c = leap == JUMP ? takePlace() : 0;
            emit(tested ? TEST : GO, a, b, c);
            if (leap != JUMP && actCount <= MAX_ACTS) {
                awaited[actCount - 1] = leap;
            }
        }

        private void openBody(int kind, int skip, int a, int b) {
            int many = take();
            require(depth < MAX_BODIES, NO_KIND_OR_TOO_DEEP);
            require(many >= 0, BELOW_NONE);
            if (found != NO_FAULT) {
                return;
            }
            left[depth] = many;
            kinds[depth] = kind;
            begins[depth] = actCount;
            skips[depth] = skip;
            testAs[depth] = a;
            testBs[depth] = b;
            depth++;
        }

        private void closeBody() {
            depth--;
            int begun = begins[depth];
            switch (kinds[depth]) {
                case IF:
                    aim(skips[depth], actCount);
                    break;
                case IF_ELSE:
                    emit(GO, 0, 0, 0);
                    aim(skips[depth], actCount);
                    // Past its second BODY leads a GO as past an IF's leads a TEST.
                    openBody(IF, actCount - 1, 0, 0);
                    break;
                case LOOP:
                    emit(GO, 0, 0, begun);
                    endLoop(begun, begun);
                    break;
                case WHILE:
                    emit(GO, 0, 0, begun);
                    aim(skips[depth], actCount);
                    endLoop(begun, begun);
                    break;
                case DO:
                    emit(TEST, testAs[depth], testBs[depth], begun);
                    endLoop(begun, actCount - 1);
                    break;
                default:
                    break;
            }
        }

        /** Those that still wait in a loop that ends wait for it: loops in it have ended before. */
        private void endLoop(int begun, int againTo) {
            loops--;
            for (int i = begun; i < actCount && i < MAX_ACTS; i++) {
                if (awaited[i] != NONE) {
                    aim(i, awaited[i] == BREAK ? actCount : againTo);
                    awaited[i] = NONE;
                }
            }
        }

        private void aim(int i, int to) {
            if (i >= 0 && i < MAX_ACTS) {
                made.cs[i] = to;
            }
        }

        /** ACTS above the limit are counted alone: they are a FAULT, but a late one. */
        private void emit(int kind, int a, int b, int c) {
            if (actCount < MAX_ACTS) {
                made.put(actCount, kind, a, b, c);
                awaited[actCount] = NONE;
            }
            actCount++;
        }
    }

    /** Runs a ROUTINE and keeps what is told of the latest run. */
    private static final class Runner {
        int steps = 0;
        int calls = 0;
        int saidCount = 0;
        final int[] said = new int[MAX_OUT];
        final int[] registers = new int[REGISTERS];
        private int depth = 0;
        private final Routine[] open = new Routine[MAX_CALLS];
        private final int[] places = new int[MAX_CALLS];

        int start(Routine[] routines, Routine first, int[] firstRegisters, int limit) {
            steps = 0;
            calls = 0;
            saidCount = 0;
            System.arraycopy(firstRegisters, 0, registers, 0, REGISTERS);
            depth = 0;
            enter(first);
            int end = NONE;
            // A turn is a STEP or the end of a CALL, of which there is one a STEP and the first.
            for (int turn = 0; turn < 2 * MAX_STEPS + 3 && end == NONE; turn++) {
                end = turn(routines, limit);
            }
            return end;
        }

        private void enter(Routine entered) {
            open[depth] = entered;
            places[depth] = 0;
            depth++;
            calls++;
        }

        /** How the run ends, or NONE if it goes on. */
        private int turn(Routine[] routines, int limit) {
            if (depth == 0) {
                return OVER;
            }
            Routine here = open[depth - 1];
            int k = places[depth - 1];
            if (k >= here.length) {
                depth--;
                return NONE;
            }
            if (steps >= limit) {
                return NO_STEP_LEFT;
            }
            steps++;
            return perform(routines, here, k);
        }

        private int perform(Routine[] routines, Routine here, int k) {
            int a = here.as[k];
            int b = here.bs[k];
            places[depth - 1] = k + 1;
            switch (here.kinds[k]) {
                case SAY:
                    return say(a);
                case ADD:
                    registers[a] += b;
                    return NONE;
                case GO:
                    places[depth - 1] = here.cs[k];
                    return NONE;
                case TEST:
                    if (holds(registers[a], b)) {
                        places[depth - 1] = here.cs[k];
                    }
                    return NONE;
                case DONE:
                    places[depth - 1] = here.length;
                    return NONE;
                default:
                    return callOf(routines[a]);
            }
        }

        private int say(int v) {
            if (saidCount >= MAX_OUT) {
                return OUT_FULL;
            }
            said[saidCount] = v;
            saidCount++;
            return NONE;
        }

        private int callOf(Routine called) {
            if (called == null || !called.whole) {
                return NO_SUCH_CALL;
            }
            if (depth >= MAX_CALLS) {
                return TOO_MANY_CALLS;
            }
            enter(called);
            return NONE;
        }

        private static boolean holds(int v, int comparison) {
            switch (comparison) {
                case 0:
                    return v == 0;
                case 1:
                    return v != 0;
                case 2:
                    return v < 0;
                case 3:
                    return v >= 0;
                case 4:
                    return v > 0;
                default:
                    return v <= 0;
            }
        }
    }
}
