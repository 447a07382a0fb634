/**
 * Promises 1 to 18: a test for each sentence that names a boundary case. says() tells the promise
 * and the sentence.
 */
public final class BoundaryPromisesTest extends Rows {
    private BoundaryPromisesTest() {
        super("BoundaryPromisesTest");
    }

    public static void main(String[] args) {
        new BoundaryPromisesTest().all();
    }

    private void all() {
        promises1To4();
        promises5And6();
        promises7And8();
        promises9To13();
        promises14To18();
        due.end();
    }

    private void promises1To4() {
        p1NoRoutines();
        p1Registers0();
        p1NothingElse();
        p2ItsNumber();
        p2WithoutActs();
        p2Full();
        p3ItsNumber();
        p3NoUseBecomes0();
        p3BadRoutine();
        p3BadKind();
        p3BadA();
        p3BadB();
        p3BadC();
        p3Full();
        p4AnotherOneFromNowOn();
        p4OfAFullRow();
        p4BadAct();
        p4BadLikewise();
        p4NoUseBecomes0();
    }

    private void p1NoRoutines() {
        due.says("Promise 1", "No ROUTINES");
        StoryDecompile x = new StoryDecompile();
        for (int r = 0; r < 12; r++) {
            due.is("ROUTINE " + r, x.of(r, 0), BAD);
        }
        due.is("the first to come", x.routine(), 0);
    }

    private void p1Registers0() {
        due.says("Promise 1", "REGISTERS 0.");
        StoryDecompile x = new StoryDecompile();
        for (int register = 0; register < 4; register++) {
            due.is("REGISTER " + register, x.set(register, register + 7), 0);
        }
        StoryDecompile y = with();
        y.run(0, 1);
        for (int register = 0; register < 4; register++) {
            due.is("REGISTER " + register + " in a run", y.ran(4 + register), 0);
        }
        due.is("another object has its own", new StoryDecompile().set(0, 1), 0);
    }

    private void p1NothingElse() {
        due.says("Promise 1", "No ROUTINES; REGISTERS 0.");
        StoryDecompile x = new StoryDecompile();
        due.is("no numbers on THE TAPE", x.clear(), 0);
        due.is("no FAULT", x.fault(), NONE);
        due.is("nothing came OUT", x.out(0), BAD);
        due.is("no run", x.ran(0), 0);
    }

    private void p2ItsNumber() {
        due.says("Promise 2", "its number");
        StoryDecompile x = new StoryDecompile();
        for (int r = 0; r < 12; r++) {
            due.is("ROUTINE " + r, x.routine(), r);
        }
        StoryDecompile y = new StoryDecompile();
        y.write();
        due.is("a FAULT took no number", y.routine(), 0);
        y.feed(0);
        y.write();
        due.is("behind one that was written", y.routine(), 2);
    }

    private void p2WithoutActs() {
        due.says("Promise 2", "A ROUTINE without ACTS");
        StoryDecompile x = with(SAY, 1, 0, 0);
        int r = x.routine();
        due.is("ACTS", x.of(r, 0), 0);
        due.is("ACT 0", x.told(r, 0, 0), BAD);
        due.is("WHOLE", x.of(r, 1), 1);
        due.is("STATEMENTS", x.of(r, 3), 0);
        due.is("the other one has its ACT", x.of(0, 0), 1);
    }

    private void p2Full() {
        due.says("Promise 2", "FULL.");
        StoryDecompile x = new StoryDecompile();
        for (int r = 0; r < 12; r++) {
            x.routine();
        }
        due.is("the thirteenth", x.routine(), FULL);
        due.is("and again", x.routine(), FULL);
        due.is("ROUTINE 11 is there", x.of(11, 0), 0);
        due.is("ROUTINE 12 is not", x.of(12, 0), BAD);
    }

    private void p3ItsNumber() {
        due.says("Promise 3", "An ACT more (what it has no use for becomes 0): its number.");
        StoryDecompile x = with();
        for (int i = 0; i < 60; i++) {
            due.is("ACT " + i, x.act(0, i % 6, 0, 0, 0), i);
        }
        due.is("the first of another one", x.act(x.routine(), SAY, 0, 0, 0), 0);
    }

    private void p3NoUseBecomes0() {
        due.says("Promise 3", "(what it has no use for becomes 0)");
        StoryDecompile x = with();
        int[][] asked = {{SAY, 5, 3, 60}, {ADD, 2, 3, 60}, {GO, 2, 3, 60}, {DONE, 2, 3, 60}, {CALL, 2, 3, 60},
            {SAY, 5, MIN, MAX}, {ADD, 2, 3, -1}, {GO, 4, 6, 60}, {DONE, MAX, MIN, 61}, {CALL, 2, -1, 61}};
        int[][] kept = {{SAY, 5, 0, 0}, {ADD, 2, 3, 0}, {GO, 0, 0, 60}, {DONE, 0, 0, 0}, {CALL, 2, 0, 0}};
        for (int i = 0; i < asked.length; i++) {
            int[] act = asked[i];
            due.is("ACT " + i, x.act(0, act[0], act[1], act[2], act[3]), i);
            isAct("it is kept", x, i, kept[i % 5]);
        }
    }

    private void p3BadRoutine() {
        due.says("Promise 3", "BAD: routine");
        StoryDecompile x = with();
        for (int r : row(MIN, -1, 1, 12, MAX)) {
            due.is("ROUTINE " + r, x.act(r, SAY, 0, 0, 0), BAD);
        }
        due.is("ROUTINE 0", x.act(0, SAY, 0, 0, 0), 0);
    }

    private void p3BadKind() {
        due.says("Promise 3", "BAD: routine, kind");
        StoryDecompile x = with();
        for (int kind : row(MIN, -1, 6, 7, MAX)) {
            due.is("kind " + kind, x.act(0, kind, 0, 0, 0), BAD);
        }
        due.is("none came", x.of(0, 0), 0);
        for (int kind = 0; kind < 6; kind++) {
            due.is("kind " + kind, x.act(0, kind, 0, 0, 0), kind);
            due.is("kind of ACT " + kind, x.told(0, kind, 0), kind);
        }
    }

    private void p3BadA() {
        due.says("Promise 3", "BAD: routine, kind, a");
        StoryDecompile x = with();
        for (int a : row(MIN, -1, 12, MAX)) {
            due.is("ADD " + a, x.act(0, ADD, a, 0, 0), BAD);
            due.is("TEST " + a, x.act(0, TEST, a, 0, 0), BAD);
            due.is("CALL " + a, x.act(0, CALL, a, 0, 0), BAD);
        }
        due.is("ADD 4", x.act(0, ADD, 4, 0, 0), BAD);
        due.is("TEST 4", x.act(0, TEST, 4, 0, 0), BAD);
        due.is("none came", x.of(0, 0), 0);
        int[][] good = {{ADD, 0}, {ADD, 3}, {TEST, 0}, {TEST, 3}, {CALL, 0}, {CALL, 4}, {CALL, 11}, {SAY, MIN}, {SAY, MAX}};
        for (int i = 0; i < good.length; i++) {
            due.is("kind " + good[i][0] + " of " + good[i][1], x.act(0, good[i][0], good[i][1], 0, 0), i);
            due.is("its a", x.told(0, i, 1), good[i][1]);
        }
    }

    private void p3BadB() {
        due.says("Promise 3", "BAD: routine, kind, a, b");
        StoryDecompile x = with();
        for (int b : row(MIN, -1, 6, MAX)) {
            due.is("TEST 0 " + b, x.act(0, TEST, 0, b, 0), BAD);
        }
        due.is("none came", x.of(0, 0), 0);
        for (int b = 0; b < 6; b++) {
            due.is("TEST 0 " + b, x.act(0, TEST, 0, b, 0), b);
            due.is("its b", x.told(0, b, 2), b);
        }
        due.is("ADD 0 MIN", x.act(0, ADD, 0, MIN, 0), 6);
        due.is("its b", x.told(0, 6, 2), MIN);
        due.is("ADD 0 MAX", x.act(0, ADD, 0, MAX, 0), 7);
        due.is("its b", x.told(0, 7, 2), MAX);
    }

    private void p3BadC() {
        due.says("Promise 3", "c not 0 .. 60");
        StoryDecompile x = with();
        for (int c : row(MIN, -1, 61, MAX)) {
            due.is("GO " + c, x.act(0, GO, 0, 0, c), BAD);
            due.is("TEST to " + c, x.act(0, TEST, 0, 0, c), BAD);
        }
        due.is("none came", x.of(0, 0), 0);
        int[] good = {0, 1, 60};
        for (int i = 0; i < 3; i++) {
            due.is("GO " + good[i], x.act(0, GO, 0, 0, good[i]), 2 * i);
            due.is("its c", x.told(0, 2 * i, 3), good[i]);
            due.is("TEST to " + good[i], x.act(0, TEST, 0, 0, good[i]), 2 * i + 1);
            due.is("its c", x.told(0, 2 * i + 1, 3), good[i]);
        }
    }

    private void p3Full() {
        due.says("Promise 3", "FULL.");
        StoryDecompile x = with(times(60, SAY, 1, 0, 0));
        for (int kind = 0; kind < 6; kind++) {
            due.is("a 61st of kind " + kind, x.act(0, kind, 0, 0, 0), FULL);
        }
        due.is("60 ACTS", x.of(0, 0), 60);
        due.is("ACT 59", x.told(0, 59, 0), SAY);
        due.is("ACT 0", x.told(0, 0, 1), 1);
    }

    private void p4AnotherOneFromNowOn() {
        due.says("Promise 4", "ACT i is another one from now on: i.");
        StoryDecompile x = with(SAY, 1, 0, 0, SAY, 2, 0, 0, SAY, 3, 0, 0);
        due.is("the TREE ahead", x.of(0, 3), 3);
        due.is("the first", x.alter(0, 0, TEST, 3, 5, 3), 0);
        due.is("the last", x.alter(0, 2, ADD, 3, MIN, 0), 2);
        isAct("the first", x, 0, TEST, 3, 5, 3);
        isAct("between", x, 1, SAY, 2, 0, 0);
        isAct("the last", x, 2, ADD, 3, MIN, 0);
        due.is("three ACTS still", x.of(0, 0), 3);
        due.is("the TREE is another one", x.statement(0, 0, 0), IF);
        x.set(3, 1);
        x.run(0, 9);
        due.is("a run does it", x.ran(7), MIN + 1);
    }

    private void p4OfAFullRow() {
        due.says("Promise 4", "ACT i is another one from now on: i.");
        StoryDecompile x = with(times(60, SAY, 1, 0, 0));
        due.is("the 60th of 60", x.alter(0, 59, GO, 0, 0, 60), 59);
        due.is("its c", x.told(0, 59, 3), 60);
        due.is("60 ACTS", x.of(0, 0), 60);
    }

    private void p4BadAct() {
        due.says("Promise 4", "BAD likewise.");
        StoryDecompile x = with(SAY, 1, 0, 0, SAY, 2, 0, 0);
        x.routine();
        for (int i : row(MIN, -1, 2, 59, 60, MAX)) {
            due.is("ACT " + i, x.alter(0, i, DONE, 0, 0, 0), BAD);
        }
        due.is("ACT 0 of no ACTS", x.alter(1, 0, DONE, 0, 0, 0), BAD);
        due.is("two ACTS", x.of(0, 0), 2);
        due.is("no ACTS", x.of(1, 0), 0);
    }

    private void p4BadLikewise() {
        due.says("Promise 4", "BAD likewise.");
        StoryDecompile x = with(SAY, 7, 0, 0);
        int[][] bad = {
            {-1, SAY, 0, 0, 0}, {1, SAY, 0, 0, 0}, {12, SAY, 0, 0, 0}, {MIN, SAY, 0, 0, 0}, {MAX, SAY, 0, 0, 0},
            {0, -1, 0, 0, 0}, {0, 6, 0, 0, 0}, {0, MIN, 0, 0, 0}, {0, MAX, 0, 0, 0},
            {0, ADD, -1, 0, 0}, {0, ADD, 4, 0, 0}, {0, TEST, -1, 0, 0}, {0, TEST, 4, 0, 0},
            {0, CALL, -1, 0, 0}, {0, CALL, 12, 0, 0}, {0, TEST, 0, -1, 0}, {0, TEST, 0, 6, 0},
            {0, GO, 0, 0, -1}, {0, GO, 0, 0, 61}, {0, TEST, 0, 0, -1}, {0, TEST, 0, 0, 61}};
        for (int[] act : bad) {
            due.is("alter of " + act[0] + " to kind " + act[1], x.alter(act[0], 0, act[1], act[2], act[3], act[4]), BAD);
        }
        isAct("it stays", x, 0, SAY, 7, 0, 0);
        int[][] good = {{ADD, 3, MAX, 0}, {TEST, 3, 5, 60}, {CALL, 11, 0, 0}, {GO, 0, 0, 60}, {SAY, MIN, 0, 0}, {DONE, 0, 0, 0}};
        for (int[] act : good) {
            due.is("alter to kind " + act[0], x.alter(0, 0, act[0], act[1], act[2], act[3]), 0);
            isAct("it is", x, 0, act);
        }
    }

    private void p4NoUseBecomes0() {
        due.says("Promise 4", "ACT i is another one from now on");
        StoryDecompile x = with(TEST, 3, 5, 60);
        x.alter(0, 0, SAY, 9, 8, 7);
        isAct("nothing is left of the TEST", x, 0, SAY, 9, 0, 0);
        due.is("WHOLE", x.of(0, 1), 1);
        x.alter(0, 0, TEST, 3, 5, 60);
        x.alter(0, 0, DONE, 3, 5, 60);
        isAct("nothing is left of the TEST", x, 0, DONE, 0, 0, 0);
        x.alter(0, 0, GO, 3, 5, 1);
        isAct("nor of what it has no use for", x, 0, GO, 0, 0, 1);
    }

    private void promises5And6() {
        p5KindAndNumbers();
        p5Statement();
        p5ComeTo();
        p5NotWhole();
        p5Bad();
        p5MayBeBad();
        p6Acts();
        p6Whole();
        p6LeastAlike();
        p6ElseNone();
        p6Statements();
        p6Jumps();
        p6NotComeTo();
        p6Bodies();
        p6Callers();
        p6EachItsOwn();
        p6Bad();
    }

    private void p5KindAndNumbers() {
        due.says("Promise 5", "Of ACT i: 0 its kind, 1 to 3 a, b, c");
        StoryDecompile x = with(times(59, TEST, 1, 2, 3));
        x.act(0, TEST, 3, 5, 60);
        isAct("the first", x, 0, TEST, 1, 2, 3);
        isAct("the last", x, 59, TEST, 3, 5, 60);
    }

    private void p5Statement() {
        due.says("Promise 5", "4 the number of the STATEMENT that it is, or whose TEST or GO it is");
        StoryDecompile x = with(
            SAY, 9, 0, 0, TEST, 0, 0, 4, SAY, 1, 0, 0, GO, 0, 0, 5, SAY, 2, 0, 0,
            TEST, 0, 0, 8, TEST, 1, 1, 5, GO, 0, 0, 5,
            GO, 0, 0, 11, GO, 0, 0, 8, GO, 0, 0, 8,
            TEST, 2, 2, 13, TEST, 3, 3, 11, GO, 0, 0, 14, TEST, 1, 1, 15);
        int[] numbers = {0, 1, 2, 1, 3, 4, 5, 4, 7, 8, 6, 10, 9, 11, 12};
        int[] kinds = {PLAIN, IF_ELSE, PLAIN, IF_ELSE, PLAIN, WHILE, AGAIN_IF, WHILE, BREAK, AGAIN, LOOP, BREAK_IF, DO, JUMP, IF};
        for (int i = 0; i < numbers.length; i++) {
            due.is("ACT " + i, x.told(0, i, 4), numbers[i]);
            due.is("the kind of that of ACT " + i, x.statement(0, numbers[i], 0), kinds[i]);
        }
    }

    private void p5ComeTo() {
        due.says("Promise 5", "5 whether it is COME TO");
        StoryDecompile x = with(TEST, 0, 0, 3, DONE, 0, 0, 0, SAY, 1, 0, 0, GO, 0, 0, 5, SAY, 2, 0, 0);
        int[] met = {1, 1, 0, 1, 0};
        for (int i = 0; i < 5; i++) {
            due.is("ACT " + i, x.told(0, i, 5), met[i]);
        }
    }

    private void p5NotWhole() {
        due.says("Promise 5", "(4, 5: NONE, if the ROUTINE is not WHOLE)");
        StoryDecompile x = with(SAY, 6, 0, 0, GO, 0, 0, 3);
        for (int i = 0; i < 2; i++) {
            due.is("4 of ACT " + i, x.told(0, i, 4), NONE);
            due.is("5 of ACT " + i, x.told(0, i, 5), NONE);
        }
        isAct("0 to 3 are told", x, 0, SAY, 6, 0, 0);
        isAct("0 to 3 are told", x, 1, GO, 0, 0, 3);
        due.is("an ACT that is none is BAD", x.told(0, 2, 4), BAD);
        due.is("what is none is BAD", x.told(0, 0, 6), BAD);
        x.act(0, DONE, 0, 0, 0);
        due.is("4 by an ACT more", x.told(0, 1, 4), 1);
        due.is("5 by an ACT more", x.told(0, 2, 5), 0);
    }

    private void p5Bad() {
        due.says("Promise 5", "BAD (a, b may be that).");
        StoryDecompile x = with(SAY, 1, 0, 0);
        x.routine();
        for (int r : row(MIN, -1, 2, 12, MAX)) {
            due.is("ROUTINE " + r, x.told(r, 0, 0), BAD);
        }
        for (int i : row(MIN, -1, 1, 59, 60, MAX)) {
            due.is("ACT " + i, x.told(0, i, 0), BAD);
            due.is("ACT " + i + ", 4", x.told(0, i, 4), BAD);
            due.is("ACT " + i + ", 5", x.told(0, i, 5), BAD);
        }
        due.is("ACT 0 of no ACTS", x.told(1, 0, 0), BAD);
        for (int what : row(MIN, -1, 6, 7, MAX)) {
            due.is("what " + what, x.told(0, 0, what), BAD);
        }
    }

    private void p5MayBeBad() {
        due.says("Promise 5", "BAD (a, b may be that).");
        StoryDecompile x = with(SAY, BAD, 0, 0, ADD, 0, BAD, 0, SAY, NONE, 0, 0);
        due.is("a", x.told(0, 0, 1), BAD);
        due.is("b", x.told(0, 1, 2), BAD);
        due.is("a of NONE", x.told(0, 2, 1), NONE);
    }

    private void p6Acts() {
        due.says("Promise 6", "0 how many ACTS");
        StoryDecompile x = with();
        due.is("none", x.of(0, 0), 0);
        for (int i = 1; i <= 60; i++) {
            x.act(0, SAY, 1, 0, 0);
            due.is("ACTS", x.of(0, 0), i);
        }
        x.act(0, SAY, 1, 0, 0);
        due.is("60 at most", x.of(0, 0), 60);
    }

    private void p6Whole() {
        due.says("Promise 6", "1 whether it is WHOLE (1, 0)");
        due.is("no ACTS", with().of(0, 1), 1);
        due.is("GO to n", with(GO, 0, 0, 1).of(0, 1), 1);
        due.is("GO to n + 1", with(GO, 0, 0, 2).of(0, 1), 0);
        due.is("TEST to n", with(TEST, 0, 0, 1).of(0, 1), 1);
        due.is("TEST to n + 1", with(TEST, 0, 0, 2).of(0, 1), 0);
    }

    private void p6LeastAlike() {
        due.says("Promise 6", "2 the least ROUTINE with like ACTS");
        StoryDecompile x = with(SAY, 1, 0, 0);
        x.routine();
        add(x, SAY, 1, 0, 0);
        x.routine();
        add(x, GO, 0, 0, 9);
        add(x, SAY, 1, 0, 0);
        add(x, GO, 0, 0, 9);
        add(x, SAY, 2, 0, 0);
        int[] least = {0, 1, 0, 1, 4, 0, 4, 7};
        for (int r = 0; r < least.length; r++) {
            due.is("of " + r, x.of(r, 2), least[r]);
        }
        x.alter(0, 0, SAY, 2, 0, 0);
        due.is("when the least is another one", x.of(5, 2), 2);
        due.is("when there is a lesser one", x.of(7, 2), 0);
    }

    private void p6ElseNone() {
        due.says("Promise 6", "if it is WHOLE (else NONE)");
        StoryDecompile x = with(CALL, 0, 0, 0, GO, 0, 0, 3);
        due.is("0", x.of(0, 0), 2);
        due.is("1", x.of(0, 1), 0);
        due.is("2", x.of(0, 2), 0);
        for (int what = 3; what <= 7; what++) {
            due.is("what " + what, x.of(0, what), NONE);
        }
        due.is("8 is BAD", x.of(0, 8), BAD);
        x.act(0, DONE, 0, 0, 0);
        int[] then = {3, 1, 0, 3, 1, 1, 1, 1};
        for (int what = 0; what <= 7; what++) {
            due.is("by an ACT more, what " + what, x.of(0, what), then[what]);
        }
    }

    private void p6Statements() {
        due.says("Promise 6", "3 how many STATEMENTS");
        due.is("none", with().of(0, 3), 0);
        due.is("of all depths", with(TEST, 0, 0, 3, TEST, 0, 0, 3, SAY, 1, 0, 0).of(0, 3), 3);
        due.is("a WHILE is one", with(TEST, 0, 0, 2, GO, 0, 0, 0).of(0, 3), 1);
        due.is("an IF ELSE is one, and what lies in it", with(TEST, 0, 0, 2, GO, 0, 0, 3, SAY, 1, 0, 0).of(0, 3), 2);
        due.is("60", with(times(60, DONE, 0, 0, 0)).of(0, 3), 60);
    }

    private void p6Jumps() {
        due.says("Promise 6", "4 how many of these are JUMPS (8, 11)");
        due.is("none", with().of(0, 4), 0);
        due.is("a JUMP", with(GO, 0, 0, 1).of(0, 4), 1);
        due.is("a JUMP IF", with(TEST, 0, 0, 2, TEST, 1, 1, 3, SAY, 1, 0, 0).of(0, 4), 1);
        due.is("60", with(times(60, GO, 0, 0, 60)).of(0, 4), 60);
        due.is("no BREAK, AGAIN or the like, if", with(SAY, 1, 0, 0, GO, 0, 0, 0, TEST, 0, 0, 0, GO, 0, 0, 6,
            TEST, 0, 0, 6, GO, 0, 0, 0).of(0, 4), 0);
    }

    private void p6NotComeTo() {
        due.says("Promise 6", "5 how many ACTS are not COME TO");
        due.is("no ACTS", with().of(0, 5), 0);
        due.is("all are", with(SAY, 1, 0, 0, SAY, 1, 0, 0).of(0, 5), 0);
        due.is("the last is not", with(DONE, 0, 0, 0, SAY, 1, 0, 0).of(0, 5), 1);
        due.is("59 are not", with(times(60, DONE, 0, 0, 0)).of(0, 5), 59);
    }

    private void p6Bodies() {
        due.says("Promise 6", "6 how many BODIES are in one another at most (the TREE being one)");
        due.is("no ACTS", with().of(0, 6), 1);
        due.is("ACTS alone", with(SAY, 1, 0, 0, GO, 0, 0, 2).of(0, 6), 1);
        due.is("a BODY without STATEMENTS", with(GO, 0, 0, 0).of(0, 6), 2);
        due.is("two behind one another", with(GO, 0, 0, 0, TEST, 0, 0, 2).of(0, 6), 2);
        due.is("in a second BODY", with(TEST, 0, 0, 2, GO, 0, 0, 3, TEST, 0, 0, 2).of(0, 6), 3);
        due.is("the deeper one ahead", with(TEST, 0, 0, 2, TEST, 0, 0, 2, TEST, 0, 0, 3).of(0, 6), 3);
        due.is("61", with(times(60, TEST, 0, 0, 60)).of(0, 6), 61);
        due.is("60", with(joined(times(59, TEST, 0, 0, 60), row(SAY, 1, 0, 0))).of(0, 6), 60);
    }

    private void p6Callers() {
        due.says("Promise 6", "7 how many ROUTINES have a CALL of it (itself, too)");
        StoryDecompile x = with(SAY, 1, 0, 0);
        due.is("none, SAY 1 is no CALL", x.of(0, 7), 0);
        x.act(0, CALL, 0, 0, 0);
        due.is("itself", x.of(0, 7), 1);
        x.act(0, CALL, 0, 0, 0);
        due.is("a ROUTINE counts once", x.of(0, 7), 1);
        add(x, DONE, 0, 0, 0, CALL, 0, 0, 0);
        due.is("a CALL that is never come to", x.of(0, 7), 2);
        add(x, SAY, 0, 0, 0, ADD, 0, 0, 0, TEST, 0, 0, 0, CALL, 1, 0, 0);
        due.is("others with a 0 for a", x.of(0, 7), 2);
        for (int r = 3; r < 12; r++) {
            add(x, CALL, 11, 0, 0);
        }
        due.is("ROUTINE 11 by nine", x.of(11, 7), 9);
        x.act(0, CALL, 11, 0, 0);
        x.act(1, CALL, 11, 0, 0);
        x.act(2, CALL, 11, 0, 0);
        due.is("ROUTINE 11 by all twelve", x.of(11, 7), 12);
        due.is("ROUTINE 1", x.of(1, 7), 1);
        StoryDecompile most = with(times(60, SAY, 0, 0, 0));
        due.is("none of 60 ACTS", most.of(0, 7), 0);
        most.alter(0, 59, CALL, 0, 0, 0);
        due.is("the last of 60 ACTS", most.of(0, 7), 1);
        add(most, CALL, 0, 0, 0, GO, 0, 0, 3);
        due.is("one that is not WHOLE has one, too", most.of(0, 7), 2);
    }

    private void p6EachItsOwn() {
        due.says("Promise 6", "Of a ROUTINE");
        StoryDecompile x = with(TEST, 0, 0, 3, TEST, 0, 0, 3, GO, 0, 0, 5, DONE, 0, 0, 0, GO, 0, 0, 4);
        x.routine();
        add(x, GO, 0, 0, 2, SAY, 1, 0, 0, SAY, 1, 0, 0);
        int[][] is = {{5, 1, 0, 4, 1, 1, 3, 0}, {0, 1, 1, 0, 0, 0, 1, 0}, {3, 1, 2, 3, 1, 1, 1, 0}};
        for (int what = 0; what < 8; what++) {
            for (int r : row(0, 1, 2, 1, 0, 2, 0)) {
                due.is("ROUTINE " + r + " what " + what, x.of(r, what), is[r][what]);
            }
        }
    }

    private void p6Bad() {
        due.says("Promise 6", "how many ROUTINES have a CALL of it (itself, too). BAD.");
        StoryDecompile x = with(SAY, 1, 0, 0);
        for (int r : row(MIN, -1, 1, 12, MAX)) {
            for (int what = 0; what < 8; what++) {
                due.is("ROUTINE " + r + ", " + what, x.of(r, what), BAD);
            }
        }
        for (int what : row(MIN, -1, 8, MAX)) {
            due.is("what " + what, x.of(0, what), BAD);
        }
    }

    private void promises7And8() {
        p7Place();
        p7PlaceBehind();
        p7LiesIn();
        p7WhichBody();
        p7HowManyInIt();
        p7Bad();
        p7NotWhole();
        p7AfterAnAlteredAct();
        p7EachItsOwn();
        p8Number();
        p8HowMany();
        p8Bad();
        p8MayBeBad();
        p8NotWhole();
    }

    /** LOOP { IF { BREAK } IF ELSE { } { SAY WHILE { } } } DONE. */
    private static StoryDecompile tree() {
        return with(
            TEST, 0, 0, 2, GO, 0, 0, 8, TEST, 1, 1, 4, GO, 0, 0, 7, SAY, 1, 0, 0, TEST, 2, 2, 7, GO, 0, 0, 5,
            GO, 0, 0, 0, DONE, 0, 0, 0);
    }

    private void isTree(int what, int... answers) {
        StoryDecompile x = tree();
        for (int s = 0; s < answers.length; s++) {
            due.is("STATEMENT " + s, x.statement(0, s, what), answers[s]);
        }
        due.is("none behind", x.statement(0, answers.length, what), BAD);
    }

    private void p7Place() {
        due.says("Promise 7", "0 its kind, 1 the PLACE at which it begins");
        isTree(0, LOOP, IF, BREAK, IF_ELSE, PLAIN, WHILE, PLAIN);
        isTree(1, 0, 0, 1, 2, 4, 5, 8);
    }

    private void p7PlaceBehind() {
        due.says("Promise 7", "2 the one behind it");
        isTree(2, 8, 2, 2, 7, 5, 7, 9);
        due.is("an IF without a BODY", with(TEST, 0, 0, 1).statement(0, 0, 2), 1);
        due.is("60", with(times(60, SAY, 1, 0, 0)).statement(0, 59, 2), 60);
    }

    private void p7LiesIn() {
        due.says("Promise 7", "3 the STATEMENT that it lies in (NONE)");
        isTree(3, NONE, 0, 1, 0, 3, 3, NONE);
        due.is("59 in 58", with(times(60, TEST, 0, 0, 60)).statement(0, 59, 3), 58);
    }

    private void p7WhichBody() {
        due.says("Promise 7", "4 in which of its BODIES (0, 1; NONE)");
        isTree(4, NONE, 0, 0, 0, 1, 1, NONE);
        StoryDecompile x = with(TEST, 0, 0, 3, SAY, 1, 0, 0, GO, 0, 0, 4, SAY, 2, 0, 0);
        due.is("the first", x.statement(0, 1, 4), 0);
        due.is("the second", x.statement(0, 2, 4), 1);
        due.is("IF has one", with(TEST, 0, 0, 2, SAY, 1, 0, 0).statement(0, 1, 4), 0);
        due.is("LOOP has one", with(SAY, 1, 0, 0, GO, 0, 0, 0).statement(0, 1, 4), 0);
        due.is("WHILE has one", with(TEST, 0, 0, 3, SAY, 1, 0, 0, GO, 0, 0, 0).statement(0, 1, 4), 0);
        due.is("DO has one", with(SAY, 1, 0, 0, TEST, 0, 0, 0).statement(0, 1, 4), 0);
    }

    private void p7HowManyInIt() {
        due.says("Promise 7", "5 how many STATEMENTS are in it, of all depths");
        isTree(5, 5, 1, 0, 2, 0, 0, 0);
        due.is("59 of all depths", with(times(60, TEST, 0, 0, 60)).statement(0, 0, 5), 59);
        due.is("none", with(GO, 0, 0, 0).statement(0, 0, 5), 0);
    }

    private void p7Bad() {
        due.says("Promise 7", "BAD; NO: the ROUTINE is not WHOLE");
        StoryDecompile x = with(SAY, 1, 0, 0);
        x.routine();
        for (int r : row(MIN, -1, 2, 12, MAX)) {
            due.is("ROUTINE " + r, x.statement(r, 0, 0), BAD);
        }
        for (int s : row(MIN, -1, 1, 60, MAX)) {
            for (int what = 0; what < 6; what++) {
                due.is("STATEMENT " + s, x.statement(0, s, what), BAD);
            }
        }
        for (int what : row(MIN, -1, 6, MAX)) {
            due.is("what " + what, x.statement(0, 0, what), BAD);
        }
        due.is("STATEMENT 0 of no ACTS", x.statement(1, 0, 0), BAD);
    }

    private void p7NotWhole() {
        due.says("Promise 7", "NO: the ROUTINE is not WHOLE (looked at behind r, what)");
        StoryDecompile x = with(SAY, 1, 0, 0, GO, 0, 0, 3);
        due.is("NO", x.statement(0, 0, 0), NO);
        due.is("what is BAD", x.statement(0, 0, 6), BAD);
        due.is("what is BAD", x.statement(0, 0, -1), BAD);
        due.is("r is BAD", x.statement(1, 0, 0), BAD);
        for (int s : row(MIN, -1, 2, 60, MAX)) {
            due.is("s is looked at later", x.statement(0, s, 0), NO);
        }
        x.act(0, DONE, 0, 0, 0);
        due.is("WHOLE by an ACT more", x.statement(0, 2, 1), 2);
        due.is("s is BAD then", x.statement(0, 3, 0), BAD);
    }

    private void p7AfterAnAlteredAct() {
        due.says("Promise 7", "Of STATEMENT s of the TREE of a ROUTINE");
        StoryDecompile x = with(SAY, 1, 0, 0, SAY, 2, 0, 0);
        add(x, GO, 0, 0, 0);
        due.is("0, its kind", x.statement(0, 0, 0), PLAIN);
        due.is("1, its kind", x.statement(1, 0, 0), LOOP);
        due.is("0 again", x.statement(0, 1, 0), PLAIN);
        x.alter(0, 1, TEST, 0, 0, 0);
        due.is("0, altered", x.statement(0, 0, 0), DO);
        x.act(0, SAY, 3, 0, 0);
        due.is("0, an ACT more", x.statement(0, 2, 1), 2);
        due.is("1 stays", x.statement(1, 0, 0), LOOP);
        x.copy(1);
        due.is("written", x.write(), 2);
        due.is("what was written", x.statement(2, 0, 0), LOOP);
    }

    private void p7EachItsOwn() {
        due.says("Promise 7", "Of STATEMENT s of the TREE of a ROUTINE");
        StoryDecompile x = with(TEST, 0, 0, 4, SAY, 1, 0, 0, TEST, 0, 0, 4, SAY, 1, 0, 0);
        add(x, SAY, 1, 0, 0, SAY, 1, 0, 0, SAY, 1, 0, 0);
        int[][] first = {{IF, 0, 4, NONE, NONE, 3}, {PLAIN, 0, 1, NONE, NONE, 0}};
        int[][] third = {{IF, 2, 4, 0, 0, 1}, {PLAIN, 2, 3, NONE, NONE, 0}};
        for (int r : row(0, 1, 0, 1)) {
            for (int what = 0; what < 6; what++) {
                due.is("STATEMENT 0 of " + r + " what " + what, x.statement(r, 0, what), first[r][what]);
                due.is("STATEMENT 2 of " + r + " what " + what, x.statement(r, 2, what), third[r][what]);
            }
        }
        due.is("STATEMENT 3 of 0", x.statement(0, 3, 1), 3);
        due.is("STATEMENT 3 of 1", x.statement(1, 3, 1), BAD);
    }

    private void p8Number() {
        due.says("Promise 8", "Number i of the TEXT of a ROUTINE");
        StoryDecompile x = with(SAY, 9, 0, 0, GO, 0, 0, 2);
        int[] words = {2, PLAIN, SAY, 9, 0, JUMP, 2};
        for (int i = 0; i < words.length; i++) {
            due.is("number " + i, x.text(0, i), words[i]);
        }
    }

    private void p8HowMany() {
        due.says("Promise 8", "i = NONE: how many there are");
        due.is("of no ACTS", with().text(0, NONE), 1);
        due.is("of one", with(DONE, 0, 0, 0).text(0, NONE), 5);
        due.is("of 60", with(times(60, DONE, 0, 0, 0)).text(0, NONE), 241);
        due.is("of 60 in one another", with(times(60, TEST, 0, 0, 60)).text(0, NONE), 241);
    }

    private void p8Bad() {
        due.says("Promise 8", "BAD (which it may be)");
        StoryDecompile x = with(DONE, 0, 0, 0);
        for (int r : row(MIN, -1, 1, 12, MAX)) {
            due.is("ROUTINE " + r, x.text(r, 0), BAD);
            due.is("ROUTINE " + r + ", how many", x.text(r, NONE), BAD);
        }
        for (int i : row(MIN, -2, 5, 241, MAX)) {
            due.is("number " + i, x.text(0, i), BAD);
        }
        StoryDecompile most = with(times(60, DONE, 0, 0, 0));
        due.is("number 240", most.text(0, 240), 0);
        due.is("number 241", most.text(0, 241), BAD);
    }

    private void p8MayBeBad() {
        due.says("Promise 8", "BAD (which it may be)");
        StoryDecompile x = with(SAY, BAD, 0, 0, ADD, 0, BAD, 0, SAY, NO, 0, 0);
        due.is("a", x.text(0, 3), BAD);
        due.is("b", x.text(0, 8), BAD);
        due.is("NO it may be, too", x.text(0, 11), NO);
        due.is("how many", x.text(0, NONE), 13);
    }

    private void p8NotWhole() {
        due.says("Promise 8", "NO: it is not WHOLE.");
        StoryDecompile x = with(GO, 0, 0, 2);
        due.is("how many", x.text(0, NONE), NO);
        due.is("number 0", x.text(0, 0), NO);
        x.act(0, DONE, 0, 0, 0);
        due.is("WHOLE by an ACT more", x.text(0, 0), 2);
        x.alter(0, 1, TEST, 0, 0, 3);
        due.is("by another ACT no more", x.text(0, 0), NO);
    }

    private void promises9To13() {
        p9HowMany();
        p9AnyNumber();
        p9Full();
        p10BehindTheTape();
        p10Bad();
        p10NotWhole();
        p10Full();
        p11Written();
        p11EmptyThen();
        p11Fault();
        p11NothingIsLeftOfAFault();
        p11Full();
        p11TheTapeStays();
        p12Latest();
        p12None();
        p12Places();
        p13HowMany();
        p13Empty();
    }

    private void p9HowMany() {
        due.says("Promise 9", "A number comes behind THE TAPE: how many it has.");
        StoryDecompile x = with(DONE, 0, 0, 0);
        due.is("the first", x.feed(0), 1);
        x.copy(0);
        due.is("behind a copy", x.feed(0), 7);
        x.clear();
        due.is("behind clear", x.feed(0), 1);
        x.write();
        due.is("behind write", x.feed(0), 1);
        due.is("it came behind", x.feed(5), 2);
        due.is("write", x.write(), -17);
        due.is("its place", x.fault(), 1);
    }

    private void p9AnyNumber() {
        due.says("Promise 9", "A number comes behind THE TAPE");
        int[] numbers = {MIN, FULL, NO, BAD, NONE, 61, MAX};
        for (int v : numbers) {
            StoryDecompile x = new StoryDecompile();
            x.feed(1);
            x.feed(PLAIN);
            x.feed(SAY);
            due.is("feed " + v, x.feed(v), 4);
            x.feed(0);
            x.write();
            due.is("SAY " + v, x.told(0, 0, 1), v);
        }
    }

    private void p9Full() {
        due.says("Promise 9", "FULL.");
        StoryDecompile x = new StoryDecompile();
        tape(x, times(299, 0));
        due.is("the 300th", x.feed(0), 300);
        due.is("the 301st", x.feed(0), FULL);
        due.is("and again", x.feed(0), FULL);
        due.is("300 numbers", x.clear(), 300);
        due.is("room again", x.feed(0), 1);
    }

    private void p10BehindTheTape() {
        due.says("Promise 10", "The TEXT of a ROUTINE comes behind THE TAPE: how many it has.");
        StoryDecompile x = with(SAY, 9, 0, 0);
        x.routine();
        due.is("on an empty one", x.copy(0), 5);
        due.is("behind it", x.copy(0), 10);
        due.is("of no ACTS", x.copy(1), 11);
        x.clear();
        tape(x, 1, LOOP);
        due.is("behind two numbers", x.copy(0), 7);
        due.is("written", x.write(), 2);
        due.is("its SAY", x.told(2, 0, 1), 9);
        due.is("the GO of the LOOP", x.told(2, 1, 0), GO);
    }

    private void p10Bad() {
        due.says("Promise 10", "BAD; NO: not WHOLE");
        StoryDecompile x = with(SAY, 1, 0, 0);
        for (int r : row(MIN, -1, 1, 12, MAX)) {
            due.is("ROUTINE " + r, x.copy(r), BAD);
        }
        due.is("nothing came", x.clear(), 0);
    }

    private void p10NotWhole() {
        due.says("Promise 10", "NO: not WHOLE");
        StoryDecompile x = with(GO, 0, 0, 2);
        due.is("NO", x.copy(0), NO);
        due.is("nothing came", x.clear(), 0);
        x.act(0, DONE, 0, 0, 0);
        due.is("WHOLE by an ACT more", x.copy(0), 7);
    }

    private void p10Full() {
        due.says("Promise 10", "NO: not WHOLE; FULL.");
        StoryDecompile x = with(times(60, SAY, 1, 0, 0));
        x.routine();
        tape(x, times(59, 7));
        due.is("241 behind 59", x.copy(0), 300);
        due.is("one more", x.copy(1), FULL);
        x.clear();
        tape(x, times(60, 7));
        due.is("241 behind 60", x.copy(0), FULL);
        due.is("nothing of it came", x.feed(7), 61);
        x.clear();
        due.is("241", x.copy(0), 241);
        due.is("241 again", x.copy(0), FULL);
        due.is("241 numbers", x.clear(), 241);
    }

    private void p11Written() {
        due.says("Promise 11", "is a TEXT: it is WRITTEN, a ROUTINE more: its number");
        StoryDecompile x = with(SAY, 1, 0, 0);
        x.feed(0);
        due.is("the least TEXT", x.write(), 1);
        due.is("without ACTS", x.of(1, 0), 0);
        tape(x, joined(row(60), times(60, PLAIN, SAY, 4, 0)));
        due.is("60 ACTS", x.write(), 2);
        due.is("60 ACTS", x.of(2, 0), 60);
        due.is("the last one", x.told(2, 59, 1), 4);
        due.is("it is WHOLE", x.of(2, 1), 1);
        tape(x, 1, JUMP, 0);
        due.is("fewer again", x.write(), 3);
        due.is("one ACT", x.of(3, 0), 1);
        due.is("an ACT more comes behind", x.act(3, SAY, 5, 0, 0), 1);
        due.is("the others stay", x.told(2, 0, 1), 4);
    }

    private void p11EmptyThen() {
        due.says("Promise 11", "THE TAPE, which is empty then");
        StoryDecompile x = new StoryDecompile();
        x.feed(0);
        x.write();
        due.is("behind a TEXT", x.clear(), 0);
        tape(x, 1, LOOP, 0, 5, 5);
        due.is("a FAULT", x.write(), -17);
        due.is("behind a FAULT", x.clear(), 0);
        due.is("a number comes first", x.feed(0), 1);
        due.is("and is a TEXT alone", x.write(), 1);
    }

    private void p11Fault() {
        due.says("Promise 11", "-10 less its FAULT");
        int[][] tapes = {{}, {1, 12}, {-1}, {1, PLAIN, GO}, {1, BREAK}, {1, JUMP, -1}, {0, 0},
            joined(row(1, LOOP, 60), times(60, BREAK)), {1, JUMP, 2}};
        for (int fault = 1; fault <= 9; fault++) {
            StoryDecompile x = new StoryDecompile();
            tape(x, tapes[fault - 1]);
            due.is("FAULT " + fault, x.write(), -10 - fault);
            due.is("no ROUTINE", x.of(0, 0), BAD);
        }
    }

    private void p11NothingIsLeftOfAFault() {
        due.says("Promise 11", "THE TAPE, which is empty then, is a TEXT: it is WRITTEN");
        StoryDecompile x = new StoryDecompile();
        tape(x, 1, LOOP, 1, WHILE, 0, 0, 1, 12);
        due.is("a FAULT in loops", x.write(), -12);
        tape(x, 1, BREAK);
        due.is("a BREAK in no loop", x.write(), -15);
        tape(x, joined(row(1, LOOP, 61), times(61, BREAK)));
        due.is("too many ACTS", x.write(), -18);
        tape(x, 1, JUMP, 60);
        due.is("a c too high", x.write(), -19);
        tape(x, 1, IF_ELSE, 1, 1, 1, DO, 2, 2, 1, LOOP, -1);
        due.is("a FAULT in BODIES", x.write(), -13);
        tape(x, 2, PLAIN, SAY, 5, 0, LOOP, 1, BREAK);
        due.is("a TEXT", x.write(), 0);
        due.is("its ACTS", x.of(0, 0), 3);
        isAct("the first", x, 0, SAY, 5, 0, 0);
        isAct("the second", x, 1, GO, 0, 0, 3);
        isAct("the third", x, 2, GO, 0, 0, 1);
    }

    private void p11Full() {
        due.says("Promise 11", "FULL: 12 ROUTINES (asked first");
        StoryDecompile x = new StoryDecompile();
        for (int r = 0; r < 11; r++) {
            x.routine();
        }
        x.feed(0);
        due.is("the twelfth", x.write(), 11);
        x.feed(0);
        due.is("the thirteenth", x.write(), FULL);
        x.clear();
        due.is("an empty TAPE", x.write(), FULL);
        x.feed(-1);
        due.is("a FAULT", x.write(), FULL);
        due.is("of which nothing is told", x.fault(), NONE);
        due.is("no ROUTINE 12", x.of(12, 0), BAD);
    }

    private void p11TheTapeStays() {
        due.says("Promise 11", "THE TAPE stays");
        StoryDecompile x = new StoryDecompile();
        for (int r = 0; r < 12; r++) {
            x.routine();
        }
        tape(x, 1, LOOP, 0);
        due.is("FULL", x.write(), FULL);
        due.is("three numbers, and one more", x.feed(4), 4);
        due.is("FULL again", x.write(), FULL);
        due.is("four numbers", x.clear(), 4);
    }

    private void p12Latest() {
        due.says("Promise 12", "Of the latest write() with a FAULT: the place on THE TAPE.");
        StoryDecompile x = new StoryDecompile();
        tape(x, 1, 12);
        x.write();
        due.is("the first", x.fault(), 1);
        due.is("asked again", x.fault(), 1);
        tape(x, 1, JUMP, 5);
        x.write();
        due.is("the second", x.fault(), 3);
        x.feed(0);
        due.is("one without a FAULT", x.write(), 0);
        due.is("the latest with one", x.fault(), 3);
        x.write();
        due.is("an empty TAPE", x.fault(), 0);
    }

    private void p12None() {
        due.says("Promise 12", "NONE: there was none.");
        StoryDecompile x = new StoryDecompile();
        due.is("no write()", x.fault(), NONE);
        x.feed(0);
        x.write();
        due.is("one without a FAULT", x.fault(), NONE);
        for (int r = 1; r < 12; r++) {
            x.routine();
        }
        due.is("FULL", x.write(), FULL);
        due.is("which is no FAULT", x.fault(), NONE);
    }

    private void p12Places() {
        due.says("Promise 12", "the place on THE TAPE");
        isFault("the least", 3, 0, -1);
        isFault("the last number of a full TAPE", 2, 299, joined(row(1, LOOP, 299), times(296, BREAK), row(12)));
        isFault("behind a full TAPE", 1, 300, joined(row(1, LOOP, 299), times(297, BREAK)));
    }

    private void p13HowMany() {
        due.says("Promise 13", "THE TAPE is empty: how many numbers it had.");
        StoryDecompile x = with(DONE, 0, 0, 0);
        due.is("none", x.clear(), 0);
        x.feed(5);
        due.is("one", x.clear(), 1);
        x.copy(0);
        due.is("a copy", x.clear(), 5);
        tape(x, times(300, 1));
        x.feed(1);
        due.is("300", x.clear(), 300);
    }

    private void p13Empty() {
        due.says("Promise 13", "THE TAPE is empty");
        StoryDecompile x = new StoryDecompile();
        tape(x, 5, 6, 7);
        x.clear();
        due.is("none", x.clear(), 0);
        due.is("it ends at once", x.write(), -11);
        due.is("its place", x.fault(), 0);
        tape(x, 5, 6);
        x.clear();
        due.is("the first again", x.feed(0), 1);
        due.is("alone", x.write(), 0);
        due.is("the place stays", x.fault(), 0);
    }

    private void promises14To18() {
        p14Alike();
        p14NotAlike();
        p14Bad();
        p15WhatItWas();
        p15AtTheBeginning();
        p15Bad();
        p15MayBeBad();
        p16Steps();
        p16HowItEnds();
        p16Bad();
        p16NotWhole();
        p17What();
        p17Latest();
        p17Bad();
        p17MayBeBad();
        p17BeforeAny();
        p18Number();
        p18Bad();
        p18MayBeBad();
    }

    private void p14Alike() {
        due.says("Promise 14", "Whether two ROUTINES have like ACTS: 1, 0.");
        StoryDecompile x = with();
        x.routine();
        due.is("no ACTS", x.like(0, 1), 1);
        due.is("one and itself", x.like(1, 1), 1);
        add(x, times(60, TEST, 3, 5, 60));
        add(x, times(60, TEST, 3, 5, 60));
        due.is("60 ACTS", x.like(2, 3), 1);
        x.alter(3, 59, TEST, 3, 5, 59);
        due.is("all but the last", x.like(2, 3), 0);
        x.alter(3, 59, TEST, 3, 5, 60);
        due.is("the last, too", x.like(3, 2), 1);
        x.alter(3, 0, TEST, 3, 5, 59);
        due.is("all but the first", x.like(2, 3), 0);
    }

    private void p14NotAlike() {
        due.says("Promise 14", "like ACTS: 1, 0");
        int[][] others = {{TEST, 0, 2, 1}, {TEST, 1, 1, 1}, {TEST, 1, 2, 0}, {ADD, 1, 2, 0}, {SAY, 1, 0, 0}};
        for (int[] other : others) {
            StoryDecompile x = with(TEST, 1, 2, 1);
            add(x, other);
            due.is("kind " + other[0], x.like(0, 1), 0);
            due.is("the other way", x.like(1, 0), 0);
        }
        StoryDecompile y = with(SAY, 1, 0, 0);
        add(y, SAY, 1, 0, 0, SAY, 1, 0, 0);
        y.routine();
        due.is("one longer", y.like(0, 1), 0);
        due.is("one shorter", y.like(1, 0), 0);
        due.is("no ACTS", y.like(2, 0), 0);
        StoryDecompile zero = with(SAY, 0, 0, 0);
        zero.routine();
        due.is("SAY 0 and none", zero.like(0, 1), 0);
        StoryDecompile kinds = with(SAY, 0, 0, 0);
        add(kinds, DONE, 0, 0, 0);
        due.is("by the kind alone", kinds.like(0, 1), 0);
        StoryDecompile use = with(SAY, 4, 5, 6, DONE, 1, 2, 3, GO, 1, 2, 3);
        add(use, SAY, 4, 0, 0, DONE, 0, 0, 0, GO, 0, 0, 3);
        due.is("what they have no use for", use.like(0, 1), 1);
        StoryDecompile broken = with(GO, 0, 0, 60);
        add(broken, GO, 0, 0, 60);
        due.is("not WHOLE, and alike", broken.like(0, 1), 1);
    }

    private void p14Bad() {
        due.says("Promise 14", "1, 0. BAD.");
        StoryDecompile x = with(SAY, 1, 0, 0);
        for (int r : row(MIN, -1, 1, 12, MAX)) {
            due.is("r " + r, x.like(r, 0), BAD);
            due.is("q " + r, x.like(0, r), BAD);
            due.is("both " + r, x.like(r, r), BAD);
        }
    }

    private void p15WhatItWas() {
        due.says("Promise 15", "what it was");
        StoryDecompile x = new StoryDecompile();
        for (int register = 0; register < 4; register++) {
            due.is("at first", x.set(register, MIN + register), 0);
            due.is("then", x.set(register, MAX - register), MIN + register);
        }
        for (int register = 0; register < 4; register++) {
            due.is("each its own", x.set(register, 0), MAX - register);
        }
    }

    private void p15AtTheBeginning() {
        due.says("Promise 15", "A REGISTER at the beginning of runs");
        StoryDecompile x = with(ADD, 2, 1, 0);
        x.set(2, 5);
        x.run(0, 9);
        due.is("a run", x.ran(6), 6);
        x.run(0, 9);
        due.is("a second run", x.ran(6), 6);
        x.set(2, 50);
        due.is("the latest run is as it was", x.ran(6), 6);
        due.is("set tells the beginning, not the end", x.set(2, 51), 50);
        x.run(0, 0);
        due.is("a run without STEPS", x.ran(6), 51);
    }

    private void p15Bad() {
        due.says("Promise 15", "BAD (which it may be)");
        StoryDecompile x = with();
        for (int register : row(MIN, -1, 4, 7, MAX)) {
            due.is("REGISTER " + register, x.set(register, 9), BAD);
        }
        x.run(0, 0);
        for (int register = 0; register < 4; register++) {
            due.is("REGISTER " + register + " stays", x.ran(4 + register), 0);
        }
    }

    private void p15MayBeBad() {
        due.says("Promise 15", "BAD (which it may be)");
        StoryDecompile x = new StoryDecompile();
        due.is("to BAD", x.set(3, BAD), 0);
        due.is("from BAD", x.set(3, 4), BAD);
        due.is("it was set all the same", x.set(3, 0), 4);
    }

    private void p16Steps() {
        due.says("Promise 16", "A run of so many STEPS at most (0 .. 10000)");
        StoryDecompile x = with(GO, 0, 0, 0);
        due.is("-1", x.run(0, -1), BAD);
        due.is("0", x.run(0, 0), 1);
        due.is("0 STEPS", x.ran(0), 0);
        due.is("1", x.run(0, 1), 1);
        due.is("1 STEP", x.ran(0), 1);
        due.is("10000", x.run(0, 10000), 1);
        due.is("10000 STEPS", x.ran(0), 10000);
        due.is("10001", x.run(0, 10001), BAD);
    }

    private void p16HowItEnds() {
        due.says("Promise 16", "how it ends");
        due.is("0", with().run(0, 0), 0);
        due.is("1", with(SAY, 1, 0, 0).run(0, 0), 1);
        due.is("2", with(CALL, 11, 0, 0).run(0, 1), 2);
        due.is("3", with(CALL, 0, 0, 0).run(0, 8), 3);
        due.is("4", with(SAY, 1, 0, 0, GO, 0, 0, 0).run(0, 401), 4);
    }

    private void p16Bad() {
        due.says("Promise 16", "BAD; NO: the ROUTINE is not WHOLE.");
        StoryDecompile x = with(SAY, 6, 0, 0);
        x.run(0, 9);
        for (int r : row(MIN, -1, 1, 12, MAX)) {
            due.is("ROUTINE " + r, x.run(r, 9), BAD);
        }
        for (int steps : row(MIN, -1, 10001, MAX)) {
            due.is("STEPS " + steps, x.run(0, steps), BAD);
        }
        due.is("the latest run is as it was: STEPS", x.ran(0), 1);
        due.is("the latest run is as it was: OUT", x.out(0), 6);
    }

    private void p16NotWhole() {
        due.says("Promise 16", "NO: the ROUTINE is not WHOLE.");
        StoryDecompile x = with(SAY, 6, 0, 0, SAY, 7, 0, 0);
        x.run(0, 9);
        x.act(0, GO, 0, 0, 4);
        due.is("NO", x.run(0, 9), NO);
        due.is("no STEPS, NO", x.run(0, 0), NO);
        due.is("BAD is first", x.run(0, 10001), BAD);
        due.is("the latest run is as it was", x.ran(0), 2);
        x.alter(0, 2, GO, 0, 0, 3);
        due.is("WHOLE by another ACT", x.run(0, 9), 0);
        due.is("STEPS", x.ran(0), 3);
    }

    private void p17What() {
        due.says("Promise 17", "0 STEPS, 1 how many came OUT, 2 CALLS (with the first one), 4 to 7 REGISTERS 0 to 3 then");
        StoryDecompile x = with(SAY, 1, 0, 0, CALL, 1, 0, 0, ADD, 1, 5, 0, SAY, 2, 0, 0, CALL, 1, 0, 0, SAY, 3, 0, 0);
        add(x, ADD, 3, -9, 0);
        x.set(0, 100);
        x.set(2, MAX);
        due.is("run", x.run(0, 99), 0);
        int[] is = {8, 3, 3, BAD, 100, 5, MAX, -18};
        for (int what = 0; what < 8; what++) {
            due.is("ran " + what, x.ran(what), is[what]);
        }
    }

    private void p17Latest() {
        due.says("Promise 17", "Of the latest run");
        StoryDecompile x = with(SAY, 1, 0, 0, ADD, 0, 4, 0, CALL, 1, 0, 0);
        x.routine();
        x.run(0, 99);
        x.run(1, 99);
        int[] is = {0, 0, 1, BAD, 0, 0, 0, 0};
        for (int what = 0; what < 8; what++) {
            due.is("ran " + what, x.ran(what), is[what]);
        }
        x.run(0, 2);
        due.is("one that ended early: STEPS", x.ran(0), 2);
        due.is("one that ended early: CALLS", x.ran(2), 1);
        due.is("one that ended early: REGISTER 0", x.ran(4), 4);
    }

    private void p17Bad() {
        due.says("Promise 17", "BAD (which they may be; also 3)");
        StoryDecompile x = with(ADD, 0, 1, 0);
        x.run(0, 9);
        for (int what : row(MIN, -1, 3, 8, MAX)) {
            due.is("ran " + what, x.ran(what), BAD);
        }
    }

    private void p17MayBeBad() {
        due.says("Promise 17", "BAD (which they may be; also 3)");
        StoryDecompile x = with(ADD, 0, BAD, 0, ADD, 3, BAD, 0);
        x.run(0, 9);
        due.is("REGISTER 0", x.ran(4), BAD);
        due.is("REGISTER 3", x.ran(7), BAD);
    }

    private void p17BeforeAny() {
        due.says("Promise 17", "0 before any.");
        StoryDecompile x = with(GO, 0, 0, 2);
        x.set(0, 5);
        x.run(0, 9);
        x.run(1, 9);
        for (int what : row(0, 1, 2, 4, 5, 6, 7)) {
            due.is("ran " + what + ", runs being refused", x.ran(what), 0);
        }
        due.is("8 is BAD", x.ran(8), BAD);
        due.is("-1 is BAD", x.ran(-1), BAD);
    }

    private void p18Number() {
        due.says("Promise 18", "What came OUT i-th in the latest run.");
        StoryDecompile x = with(ADD, 0, 1, 0, SAY, 1, 0, 0, SAY, 2, 0, 0, TEST, 0, 2, 0);
        x.set(0, -100);
        due.is("run", x.run(0, 10000), 0);
        due.is("the first", x.out(0), 1);
        due.is("the second", x.out(1), 2);
        due.is("the 199th", x.out(198), 1);
        due.is("the 200th", x.out(199), 2);
        x.set(0, 0);
        x.run(0, 2);
        due.is("of the latest run", x.out(0), 1);
        due.is("which had no second one", x.out(1), BAD);
    }

    private void p18Bad() {
        due.says("Promise 18", "BAD (which it may be)");
        StoryDecompile x = with(SAY, 3, 0, 0);
        due.is("before any run", x.out(0), BAD);
        x.run(0, 9);
        for (int i : row(MIN, -1, 1, 199, 200, MAX)) {
            due.is("OUT " + i, x.out(i), BAD);
        }
        x.run(0, 0);
        due.is("nothing came OUT", x.out(0), BAD);
        StoryDecompile full = with(SAY, 3, 0, 0, GO, 0, 0, 0);
        full.run(0, 10000);
        due.is("OUT 199 of 200", full.out(199), 3);
        due.is("OUT 200 of 200", full.out(200), BAD);
    }

    private void p18MayBeBad() {
        due.says("Promise 18", "BAD (which it may be)");
        StoryDecompile x = with(SAY, BAD, 0, 0, SAY, NONE, 0, 0, SAY, MIN, 0, 0, SAY, MAX, 0, 0);
        x.run(0, 9);
        due.is("how many", x.ran(1), 4);
        due.is("BAD", x.out(0), BAD);
        due.is("NONE", x.out(1), NONE);
        due.is("MIN", x.out(2), MIN);
        due.is("MAX", x.out(3), MAX);
    }
}
