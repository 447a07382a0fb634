/**
 * Terms, READING: a test for each sentence that names a boundary case. says() tells which one it is.
 * What is READ is compared as TEXT, which isText() also has WRITTEN again.
 */
public final class BoundaryReadingTest extends Rows {
    private static final String READING = "Terms, READING";

    private BoundaryReadingTest() {
        super("BoundaryReadingTest");
    }

    public static void main(String[] args) {
        new BoundaryReadingTest().all();
    }

    private void all() {
        wholeUpToN();
        wholeIsAllOfThem();
        wholeMindsJumpsAlone();
        kindsFrom0To11();
        placeAtWhichItBegins();
        testLeadsPastTheBody();
        noBreakOutsideOfLoops();
        noAgainOutsideOfLoops();
        bodyWithoutStatements();
        loopFromKItself();
        loopUpToAheadOfJ();
        loopsByGoAndTestAlone();
        loopBeingReadAlready();
        loopBehindOneBeingRead();
        lastOneDecides();
        doOfATest();
        doBreaksAndAgains();
        whileToJustBehind();
        whileNeedsATestAndAGo();
        whileBody();
        whileBreaksAndAgains();
        loopElse();
        loopBreaksAndAgains();
        goesOnBehindALoop();
        breakIfAheadOfOthers();
        againIfAheadOfIf();
        ifAboveK();
        ifAtMostJ();
        elseAboveT();
        elseAtMostJ();
        elseNotToC();
        elseNotToB();
        elseByAGoAlone();
        elseAboveKAlone();
        elseBodies();
        goesOnBehindIfs();
        breakAndAgainAtHand();
        jumpIfElse();
        oneMoreWhereNothingIsTold();
        goBreaks();
        goAgains();
        goJumps();
        elseTheAct();
        treeUpToN();
        numberedAsTheyBegin();
        firstBodyAheadOfTheSecond();
        due.end();
    }

    private void wholeUpToN() {
        due.says(READING, "A ROUTINE is WHOLE when all its GO, TEST go to PLACES that it has.");
        due.is("no ACTS", with().of(0, 1), 1);
        StoryDecompile x = with(GO, 0, 0, 3, TEST, 0, 0, 0);
        due.is("to n + 1", x.of(0, 1), 0);
        x.act(0, DONE, 0, 0, 0);
        due.is("to n by an ACT more", x.of(0, 1), 1);
        x.alter(0, 1, TEST, 0, 0, 4);
        due.is("a TEST to n + 1", x.of(0, 1), 0);
        x.alter(0, 1, TEST, 0, 0, 3);
        due.is("a TEST to n", x.of(0, 1), 1);
        StoryDecompile most = with(times(59, GO, 0, 0, 60));
        due.is("to 60 of 59", most.of(0, 1), 0);
        most.act(0, TEST, 0, 0, 60);
        due.is("to 60 of 60", most.of(0, 1), 1);
    }

    private void wholeIsAllOfThem() {
        due.says(READING, "WHOLE when all its GO, TEST");
        for (int i = 0; i < 3; i++) {
            StoryDecompile x = with(times(3, GO, 0, 0, 1));
            x.alter(0, i, TEST, 0, 0, 4);
            due.is("ACT " + i + " alone to n + 1", x.of(0, 1), 0);
            x.alter(0, i, DONE, 0, 0, 4);
            due.is("ACT " + i + " is no jump now", x.of(0, 1), 1);
        }
        StoryDecompile unmet = with(DONE, 0, 0, 0, GO, 0, 0, 3);
        due.is("one that is never come to", unmet.of(0, 1), 0);
    }

    private void wholeMindsJumpsAlone() {
        due.says(READING, "all its GO, TEST go to PLACES that it has");
        due.is("SAY 61", with(SAY, 61, 60, 60).of(0, 1), 1);
        due.is("ADD 61", with(ADD, 3, 61, 60).of(0, 1), 1);
        due.is("CALL of none", with(CALL, 11, 60, 60).of(0, 1), 1);
        due.is("DONE", with(DONE, 60, 60, 60).of(0, 1), 1);
    }

    private void kindsFrom0To11() {
        due.says(READING, "0 an ACT (SAY, ADD, DONE, CALL); 1 IF; 2 IF ELSE; 3 LOOP; 4 WHILE; 5 DO; 6 BREAK; 7 AGAIN; 8 JUMP c; "
            + "9 to 11 the same three, if (a TEST's a, b): BREAK IF, AGAIN IF, JUMP IF c.");
        StoryDecompile x = with(
            CALL, 1, 0, 0, TEST, 1, 2, 2,
            TEST, 2, 3, 4, GO, 0, 0, 5, ADD, 2, 8, 0,
            GO, 0, 0, 9, GO, 0, 0, 5, GO, 0, 0, 16, GO, 0, 0, 5,
            TEST, 3, 4, 12, TEST, 1, 4, 9, GO, 0, 0, 9,
            TEST, 3, 5, 15, TEST, 2, 5, 16, TEST, 0, 1, 12,
            DONE, 0, 0, 0);
        int[] kinds = {0, 1, 2, 0, 3, 6, 7, 8, 4, 10, 5, 9, 11, 0};
        due.is("how many", x.of(0, 3), kinds.length);
        for (int s = 0; s < kinds.length; s++) {
            due.is("kind of " + s, x.statement(0, s, 0), kinds[s]);
        }
    }

    private void placeAtWhichItBegins() {
        due.says(READING, "STATEMENTS, each with the PLACE at which it begins");
        StoryDecompile x = with(SAY, 1, 0, 0, SAY, 2, 0, 0, TEST, 0, 0, 1, SAY, 3, 0, 0);
        int[] kinds = {PLAIN, DO, PLAIN, PLAIN};
        int[] begins = {0, 1, 1, 3};
        for (int s = 0; s < 4; s++) {
            due.is("kind of " + s, x.statement(0, s, 0), kinds[s]);
            due.is("begin of " + s, x.statement(0, s, 1), begins[s]);
        }
    }

    private void testLeadsPastTheBody() {
        due.says(READING, "IF, WHILE have the TEST that leads past their BODY; IF ELSE two BODIES, DO the TEST that leads back.");
        isText("IF", with(TEST, 1, 2, 2, TEST, 3, 4, 1), 0, 1, IF, 1, 2, 1, DO, 3, 4, 0);
        isText("WHILE", with(TEST, 1, 2, 2, GO, 0, 0, 0), 0, 1, WHILE, 1, 2, 0);
        isText("IF ELSE", with(TEST, 1, 2, 2, GO, 0, 0, 3, DONE, 0, 0, 0), 0, 1, IF_ELSE, 1, 2, 0, 1, PLAIN, DONE, 0, 0);
        isText("DO", with(TEST, 1, 2, 2, TEST, 3, 4, 0), 0, 1, DO, 3, 4, 1, BREAK_IF, 1, 2);
    }

    private void noBreakOutsideOfLoops() {
        due.says(READING, "a PLACE B that BREAK leads to and one, C, for AGAIN (NONE outside of loops)");
        isText("GO to n", with(GO, 0, 0, 1), 0, 1, JUMP, 1);
        isText("behind a loop", with(GO, 0, 0, 0, GO, 0, 0, 2), 0, 2, LOOP, 0, JUMP, 2);
        isText("in an IF", with(TEST, 0, 0, 3, GO, 0, 0, 4, SAY, 1, 0, 0, SAY, 2, 0, 0), 0,
            2, IF, 0, 0, 2, JUMP, 4, PLAIN, SAY, 1, 0, PLAIN, SAY, 2, 0);
    }

    private void noAgainOutsideOfLoops() {
        due.says(READING, "a PLACE B that BREAK leads to and one, C, for AGAIN (NONE outside of loops)");
        isText("back into an IF", with(TEST, 0, 0, 2, SAY, 1, 0, 0, GO, 0, 0, 1), 0,
            2, IF, 0, 0, 1, PLAIN, SAY, 1, 0, JUMP, 1);
        isText("back into a loop from behind it", with(SAY, 1, 0, 0, TEST, 0, 0, 0, TEST, 1, 1, 1), 0,
            2, DO, 0, 0, 1, PLAIN, SAY, 1, 0, JUMP_IF, 1, 1, 1);
    }

    private void bodyWithoutStatements() {
        due.says(READING, "k is i at first; as long as k is below j");
        isText("TREE", with(), 0, 0);
        isText("IF", with(TEST, 0, 0, 1), 0, 1, IF, 0, 0, 0);
        isText("LOOP", with(GO, 0, 0, 0), 0, 1, LOOP, 0);
        isText("DO", with(TEST, 0, 0, 0), 0, 1, DO, 0, 0, 0);
        isText("WHILE", with(TEST, 0, 0, 2, GO, 0, 0, 0), 0, 1, WHILE, 0, 0, 0);
        isText("IF ELSE, its first BODY", with(TEST, 0, 0, 2, GO, 0, 0, 3, SAY, 1, 0, 0), 0,
            1, IF_ELSE, 0, 0, 0, 1, PLAIN, SAY, 1, 0);
    }

    private void loopFromKItself() {
        due.says(READING, "1 If some ACT from k up to ahead of j is a GO or TEST to k");
        isText("GO to itself", with(SAY, 1, 0, 0, GO, 0, 0, 1, SAY, 2, 0, 0), 0,
            3, PLAIN, SAY, 1, 0, LOOP, 0, PLAIN, SAY, 2, 0);
        isText("TEST to itself", with(SAY, 1, 0, 0, TEST, 2, 3, 1, SAY, 2, 0, 0), 0,
            3, PLAIN, SAY, 1, 0, DO, 2, 3, 0, PLAIN, SAY, 2, 0);
        isText("not from ahead of k", with(GO, 0, 0, 1, SAY, 1, 0, 0), 0, 2, JUMP, 1, PLAIN, SAY, 1, 0);
        isText("not to the next", with(SAY, 1, 0, 0, TEST, 0, 0, 2, SAY, 2, 0, 0), 0,
            3, PLAIN, SAY, 1, 0, IF, 0, 0, 0, PLAIN, SAY, 2, 0);
    }

    private void loopUpToAheadOfJ() {
        due.says(READING, "some ACT from k up to ahead of j");
        isText("ACT j - 1 of a BODY", with(TEST, 0, 0, 3, SAY, 1, 0, 0, GO, 0, 0, 1), 0,
            1, IF, 0, 0, 1, LOOP, 1, PLAIN, SAY, 1, 0);
        isText("ACT j of a BODY", with(TEST, 0, 0, 2, SAY, 1, 0, 0, GO, 0, 0, 1), 0,
            2, IF, 0, 0, 1, PLAIN, SAY, 1, 0, JUMP, 1);
        isText("ACT n - 1", with(joined(times(59, SAY, 1, 0, 0), row(TEST, 0, 1, 0))), 0,
            joined(row(1, DO, 0, 1, 59), times(59, PLAIN, SAY, 1, 0)));
    }

    private void loopsByGoAndTestAlone() {
        due.says(READING, "some ACT from k up to ahead of j is a GO or TEST to k");
        isText("others with a 0 for c", with(SAY, 0, 0, 0, ADD, 0, 0, 0, CALL, 0, 0, 0, DONE, 0, 0, 0), 0,
            4, PLAIN, SAY, 0, 0, PLAIN, ADD, 0, 0, PLAIN, CALL, 0, 0, PLAIN, DONE, 0, 0);
    }

    private void loopBeingReadAlready() {
        due.says(READING, "(unless a LOOP or DO that begins at k is being READ already)");
        isText("LOOP", with(SAY, 1, 0, 0, GO, 0, 0, 0, GO, 0, 0, 0), 0, 1, LOOP, 2, PLAIN, SAY, 1, 0, AGAIN);
        isText("LOOP, a GO to itself first", with(GO, 0, 0, 0, GO, 0, 0, 0), 0, 1, LOOP, 1, AGAIN);
        isText("LOOP, a TEST to itself first", with(TEST, 1, 1, 0, GO, 0, 0, 0), 0, 1, LOOP, 1, AGAIN_IF, 1, 1);
        isText("DO", with(SAY, 1, 0, 0, TEST, 1, 1, 0, TEST, 2, 2, 0), 0,
            1, DO, 2, 2, 2, PLAIN, SAY, 1, 0, JUMP_IF, 1, 1, 0);
        isText("DO, a TEST to itself first", with(TEST, 1, 1, 0, TEST, 2, 2, 0), 0, 1, DO, 2, 2, 1, JUMP_IF, 1, 1, 0);
        isText("DO, a GO to itself first", with(GO, 0, 0, 0, TEST, 2, 2, 0), 0, 1, DO, 2, 2, 1, JUMP, 0);
    }

    private void loopBehindOneBeingRead() {
        due.says(READING, "that begins at k is being READ already");
        isText("LOOP, and one an ACT later", with(SAY, 1, 0, 0, GO, 0, 0, 1, GO, 0, 0, 0), 0,
            1, LOOP, 2, PLAIN, SAY, 1, 0, LOOP, 0);
        isText("DO, and one an ACT later", with(SAY, 1, 0, 0, TEST, 1, 1, 1, TEST, 2, 2, 0), 0,
            1, DO, 2, 2, 2, PLAIN, SAY, 1, 0, DO, 1, 1, 0);
        isText("WHILE, and one where its BODY begins", with(TEST, 0, 0, 3, GO, 0, 0, 1, GO, 0, 0, 0), 0,
            1, WHILE, 0, 0, 1, LOOP, 0);
        isText("one begins at k, another is READ", with(GO, 0, 0, 0, GO, 0, 0, 1), 0, 2, LOOP, 0, LOOP, 0);
    }

    private void lastOneDecides() {
        due.says(READING, "m is the last one");
        isText("GO, then TEST", with(SAY, 1, 0, 0, GO, 0, 0, 0, TEST, 1, 1, 0), 0,
            1, DO, 1, 1, 2, PLAIN, SAY, 1, 0, JUMP, 0);
        isText("TEST, then GO", with(SAY, 1, 0, 0, TEST, 1, 1, 0, GO, 0, 0, 0), 0,
            1, LOOP, 2, PLAIN, SAY, 1, 0, AGAIN_IF, 1, 1);
        isText("TEST, then TEST", with(TEST, 1, 1, 0, TEST, 2, 2, 0, SAY, 1, 0, 0), 0,
            2, DO, 2, 2, 1, JUMP_IF, 1, 1, 0, PLAIN, SAY, 1, 0);
    }

    private void doOfATest() {
        due.says(READING, "If it is a TEST: DO, of k up to ahead of m, with m + 1 and m.");
        isText("its first and its last", with(SAY, 1, 0, 0, SAY, 2, 0, 0, SAY, 3, 0, 0, TEST, 3, 5, 0), 0,
            1, DO, 3, 5, 3, PLAIN, SAY, 1, 0, PLAIN, SAY, 2, 0, PLAIN, SAY, 3, 0);
        isText("though k is a TEST to m + 1", with(TEST, 1, 1, 2, TEST, 2, 2, 0), 0, 1, DO, 2, 2, 1, BREAK_IF, 1, 1);
    }

    private void doBreaksAndAgains() {
        due.says(READING, "DO, of k up to ahead of m, with m + 1 and m");
        StoryDecompile x = with(GO, 0, 0, 2, SAY, 1, 0, 0, TEST, 0, 0, 0, SAY, 2, 0, 0, SAY, 3, 0, 0);
        int[] to = {1, 2, 3, 4};
        int[] kinds = {JUMP, AGAIN, BREAK, JUMP};
        for (int i = 0; i < to.length; i++) {
            x.alter(0, 0, GO, 0, 0, to[i]);
            due.is("DO", x.statement(0, 0, 0), DO);
            due.is("a GO to " + to[i], x.statement(0, 1, 0), kinds[i]);
        }
    }

    private void whileToJustBehind() {
        due.says(READING, "If it is a GO, k a TEST to m + 1, and k is not m: WHILE");
        isText("to m + 1", with(TEST, 1, 1, 3, SAY, 1, 0, 0, GO, 0, 0, 0, DONE, 0, 0, 0), 0,
            2, WHILE, 1, 1, 1, PLAIN, SAY, 1, 0, PLAIN, DONE, 0, 0);
        isText("to m", with(TEST, 1, 1, 2, SAY, 1, 0, 0, GO, 0, 0, 0, DONE, 0, 0, 0), 0,
            2, LOOP, 1, IF, 1, 1, 1, PLAIN, SAY, 1, 0, PLAIN, DONE, 0, 0);
        isText("to m + 2", with(TEST, 1, 1, 4, SAY, 1, 0, 0, GO, 0, 0, 0, DONE, 0, 0, 0), 0,
            2, LOOP, 2, JUMP_IF, 1, 1, 4, PLAIN, SAY, 1, 0, PLAIN, DONE, 0, 0);
        isText("to m + 1 of the last GO", with(TEST, 1, 1, 3, GO, 0, 0, 0, GO, 0, 0, 0), 0, 1, WHILE, 1, 1, 1, AGAIN);
        isText("to m + 1 of another GO", with(TEST, 1, 1, 2, GO, 0, 0, 0, GO, 0, 0, 0), 0,
            1, LOOP, 1, IF, 1, 1, 1, AGAIN);
    }

    private void whileNeedsATestAndAGo() {
        due.says(READING, "k a TEST to m + 1, and k is not m: WHILE");
        isText("k a GO to m + 1", with(GO, 0, 0, 2, GO, 0, 0, 0), 0, 1, LOOP, 1, BREAK);
        isText("k is m", with(GO, 0, 0, 0), 0, 1, LOOP, 0);
        isText("k + 1 is m", with(TEST, 1, 1, 2, GO, 0, 0, 0), 0, 1, WHILE, 1, 1, 0);
        isText("a TEST behind k", with(SAY, 1, 0, 0, TEST, 1, 1, 3, GO, 0, 0, 0), 0,
            1, LOOP, 2, PLAIN, SAY, 1, 0, BREAK_IF, 1, 1);
    }

    private void whileBody() {
        due.says(READING, "WHILE, of k + 1 up to ahead of m, with m + 1 and k");
        isText("two ACTS", with(TEST, 1, 1, 4, SAY, 1, 0, 0, SAY, 2, 0, 0, GO, 0, 0, 0), 0,
            1, WHILE, 1, 1, 2, PLAIN, SAY, 1, 0, PLAIN, SAY, 2, 0);
        isText("a WHILE where it begins", with(TEST, 1, 1, 4, TEST, 2, 2, 3, GO, 0, 0, 1, GO, 0, 0, 0), 0,
            1, WHILE, 1, 1, 1, WHILE, 2, 2, 0);
    }

    private void whileBreaksAndAgains() {
        due.says(READING, "WHILE, of k + 1 up to ahead of m, with m + 1 and k");
        StoryDecompile x = with(SAY, 9, 0, 0, TEST, 0, 0, 5, SAY, 1, 0, 0, GO, 0, 0, 0, GO, 0, 0, 1,
            SAY, 2, 0, 0, SAY, 3, 0, 0);
        // To 4, where m is, it is a JUMP; to 0 all would be one loop.
        int[] to = {1, 4, 5, 6};
        int[] kinds = {AGAIN, JUMP, BREAK, JUMP};
        for (int i = 0; i < to.length; i++) {
            x.alter(0, 3, GO, 0, 0, to[i]);
            due.is("WHILE", x.statement(0, 1, 0), WHILE);
            due.is("a GO to " + to[i], x.statement(0, 3, 0), kinds[i]);
        }
    }

    private void loopElse() {
        due.says(READING, "Else LOOP, of k up to ahead of m, with m + 1 and k.");
        isText("its first and its last", with(SAY, 1, 0, 0, SAY, 2, 0, 0, GO, 0, 0, 0), 0,
            1, LOOP, 2, PLAIN, SAY, 1, 0, PLAIN, SAY, 2, 0);
        isText("none of its own", with(GO, 0, 0, 0), 0, 1, LOOP, 0);
        isText("59 of its own", with(joined(times(59, SAY, 1, 0, 0), row(GO, 0, 0, 0))), 0,
            joined(row(1, LOOP, 59), times(59, PLAIN, SAY, 1, 0)));
    }

    private void loopBreaksAndAgains() {
        due.says(READING, "Else LOOP, of k up to ahead of m, with m + 1 and k.");
        StoryDecompile x = with(SAY, 9, 0, 0, SAY, 8, 0, 0, GO, 0, 0, 1, SAY, 1, 0, 0, GO, 0, 0, 1,
            SAY, 2, 0, 0, SAY, 3, 0, 0);
        int[] to = {1, 3, 4, 5, 6};
        int[] kinds = {AGAIN, JUMP, JUMP, BREAK, JUMP};
        for (int i = 0; i < to.length; i++) {
            x.alter(0, 2, GO, 0, 0, to[i]);
            due.is("LOOP", x.statement(0, 1, 0), LOOP);
            due.is("a GO to " + to[i], x.statement(0, 3, 0), kinds[i]);
        }
    }

    private void goesOnBehindALoop() {
        due.says(READING, "k is m + 1 then.");
        isText("LOOP", with(GO, 0, 0, 0, SAY, 1, 0, 0), 0, 2, LOOP, 0, PLAIN, SAY, 1, 0);
        isText("DO", with(SAY, 1, 0, 0, TEST, 0, 0, 0, SAY, 2, 0, 0), 0,
            2, DO, 0, 0, 1, PLAIN, SAY, 1, 0, PLAIN, SAY, 2, 0);
        isText("WHILE", with(TEST, 0, 0, 2, GO, 0, 0, 0, SAY, 2, 0, 0), 0, 2, WHILE, 0, 0, 0, PLAIN, SAY, 2, 0);
        isText("a loop at once", with(GO, 0, 0, 0, TEST, 0, 0, 1), 0, 2, LOOP, 0, DO, 0, 0, 0);
    }

    private void breakIfAheadOfOthers() {
        due.says(READING, "2 Else, ACT k being a TEST to t: t is B: BREAK IF");
        isText("in a LOOP", with(SAY, 1, 0, 0, TEST, 2, 3, 3, GO, 0, 0, 0), 0,
            1, LOOP, 2, PLAIN, SAY, 1, 0, BREAK_IF, 2, 3);
        isText("of the innermost loop alone", with(SAY, 1, 0, 0, TEST, 2, 3, 4, GO, 0, 0, 1, GO, 0, 0, 0), 0,
            1, LOOP, 2, PLAIN, SAY, 1, 0, LOOP, 1, JUMP_IF, 2, 3, 4);
        isText("behind a loop in a loop", with(GO, 0, 0, 0, SAY, 1, 0, 0, GO, 0, 0, 4, TEST, 2, 3, 1), 0,
            2, LOOP, 0, DO, 2, 3, 2, PLAIN, SAY, 1, 0, BREAK);
    }

    private void againIfAheadOfIf() {
        due.says(READING, "t is C: AGAIN IF");
        isText("C of DO is j: no IF", with(TEST, 2, 3, 2, SAY, 1, 0, 0, TEST, 0, 0, 0), 0,
            1, DO, 0, 0, 2, AGAIN_IF, 2, 3, PLAIN, SAY, 1, 0);
        isText("C of LOOP", with(SAY, 1, 0, 0, TEST, 2, 3, 0, GO, 0, 0, 0), 0,
            1, LOOP, 2, PLAIN, SAY, 1, 0, AGAIN_IF, 2, 3);
        isText("C of WHILE", with(TEST, 0, 0, 3, TEST, 2, 3, 0, GO, 0, 0, 0), 0, 1, WHILE, 0, 0, 1, AGAIN_IF, 2, 3);
        isText("of the innermost loop alone",
            with(SAY, 1, 0, 0, SAY, 2, 0, 0, TEST, 2, 3, 0, GO, 0, 0, 1, GO, 0, 0, 0), 0,
            1, LOOP, 2, PLAIN, SAY, 1, 0, LOOP, 2, PLAIN, SAY, 2, 0, JUMP_IF, 2, 3, 0);
    }

    private void ifAboveK() {
        due.says(READING, "t is above k and at most j");
        isText("k + 1", with(SAY, 1, 0, 0, TEST, 2, 3, 2, SAY, 2, 0, 0), 0,
            3, PLAIN, SAY, 1, 0, IF, 2, 3, 0, PLAIN, SAY, 2, 0);
        isText("k, a DO that begins there being READ", with(TEST, 2, 3, 0, TEST, 0, 0, 0), 0,
            1, DO, 0, 0, 1, JUMP_IF, 2, 3, 0);
        isText("k - 1, in another BODY", with(TEST, 0, 0, 2, SAY, 1, 0, 0, TEST, 2, 3, 1), 0,
            2, IF, 0, 0, 1, PLAIN, SAY, 1, 0, JUMP_IF, 2, 3, 1);
    }

    private void ifAtMostJ() {
        due.says(READING, "t is above k and at most j");
        isText("j is n", with(TEST, 2, 3, 2, SAY, 1, 0, 0), 0, 1, IF, 2, 3, 1, PLAIN, SAY, 1, 0);
        isText("j of a BODY", with(TEST, 0, 0, 3, TEST, 2, 3, 3, SAY, 1, 0, 0, SAY, 2, 0, 0), 0,
            2, IF, 0, 0, 1, IF, 2, 3, 1, PLAIN, SAY, 1, 0, PLAIN, SAY, 2, 0);
        isText("j + 1 of a BODY", with(TEST, 0, 0, 3, TEST, 2, 3, 4, SAY, 1, 0, 0, SAY, 2, 0, 0), 0,
            2, IF, 0, 0, 2, JUMP_IF, 2, 3, 4, PLAIN, SAY, 1, 0, PLAIN, SAY, 2, 0);
        isText("j of a LOOP", with(SAY, 1, 0, 0, TEST, 2, 3, 3, SAY, 2, 0, 0, GO, 0, 0, 0), 0,
            1, LOOP, 2, PLAIN, SAY, 1, 0, IF, 2, 3, 1, PLAIN, SAY, 2, 0);
    }

    private void elseAboveT() {
        due.says(READING, "if ACT t - 1 is a GO to e, above t");
        isText("e is t", with(TEST, 1, 1, 3, SAY, 1, 0, 0, GO, 0, 0, 3, SAY, 2, 0, 0, SAY, 3, 0, 0), 0,
            3, IF, 1, 1, 2, PLAIN, SAY, 1, 0, JUMP, 3, PLAIN, SAY, 2, 0, PLAIN, SAY, 3, 0);
        isText("e is t + 1", with(TEST, 1, 1, 3, SAY, 1, 0, 0, GO, 0, 0, 4, SAY, 2, 0, 0, SAY, 3, 0, 0), 0,
            2, IF_ELSE, 1, 1, 1, PLAIN, SAY, 1, 0, 1, PLAIN, SAY, 2, 0, PLAIN, SAY, 3, 0);
        isText("e is t - 1", with(TEST, 1, 1, 3, SAY, 1, 0, 0, GO, 0, 0, 2, SAY, 2, 0, 0), 0,
            2, IF, 1, 1, 2, PLAIN, SAY, 1, 0, LOOP, 0, PLAIN, SAY, 2, 0);
        isText("e and t are n", with(TEST, 1, 1, 2, GO, 0, 0, 2), 0, 1, IF, 1, 1, 1, JUMP, 2);
    }

    private void elseAtMostJ() {
        due.says(READING, "a GO to e, above t and at most j");
        isText("e is n", with(TEST, 1, 1, 3, SAY, 1, 0, 0, GO, 0, 0, 5, SAY, 2, 0, 0, SAY, 3, 0, 0), 0,
            1, IF_ELSE, 1, 1, 1, PLAIN, SAY, 1, 0, 2, PLAIN, SAY, 2, 0, PLAIN, SAY, 3, 0);
        isText("e is j of a BODY",
            with(TEST, 0, 0, 4, TEST, 1, 1, 3, GO, 0, 0, 4, SAY, 1, 0, 0, SAY, 2, 0, 0, SAY, 3, 0, 0), 0,
            3, IF, 0, 0, 1, IF_ELSE, 1, 1, 0, 1, PLAIN, SAY, 1, 0, PLAIN, SAY, 2, 0, PLAIN, SAY, 3, 0);
        isText("e is j + 1 of a BODY",
            with(TEST, 0, 0, 4, TEST, 1, 1, 3, GO, 0, 0, 5, SAY, 1, 0, 0, SAY, 2, 0, 0, SAY, 3, 0, 0), 0,
            3, IF, 0, 0, 2, IF, 1, 1, 1, JUMP, 5, PLAIN, SAY, 1, 0, PLAIN, SAY, 2, 0, PLAIN, SAY, 3, 0);
    }

    private void elseNotToC() {
        due.says(READING, "that is neither B nor C");
        isText("e is C of a DO", with(TEST, 1, 1, 2, GO, 0, 0, 3, SAY, 1, 0, 0, TEST, 2, 2, 0), 0,
            1, DO, 2, 2, 2, IF, 1, 1, 1, AGAIN, PLAIN, SAY, 1, 0);
        isText("e is ahead of C of a DO", with(TEST, 1, 1, 2, GO, 0, 0, 3, SAY, 1, 0, 0, SAY, 2, 0, 0, TEST, 2, 2, 0), 0,
            1, DO, 2, 2, 2, IF_ELSE, 1, 1, 0, 1, PLAIN, SAY, 1, 0, PLAIN, SAY, 2, 0);
        isText("e is j of a LOOP, which is not C", with(TEST, 1, 1, 2, GO, 0, 0, 3, SAY, 1, 0, 0, GO, 0, 0, 0), 0,
            1, LOOP, 1, IF_ELSE, 1, 1, 0, 1, PLAIN, SAY, 1, 0);
        isText("e is C of a LOOP", with(TEST, 1, 1, 2, GO, 0, 0, 0, SAY, 1, 0, 0, GO, 0, 0, 0), 0,
            1, LOOP, 2, IF, 1, 1, 1, AGAIN, PLAIN, SAY, 1, 0);
    }

    private void elseNotToB() {
        due.says(READING, "that is neither B nor C");
        isText("e is B of a LOOP", with(TEST, 1, 1, 2, GO, 0, 0, 4, SAY, 1, 0, 0, GO, 0, 0, 0), 0,
            1, LOOP, 2, IF, 1, 1, 1, BREAK, PLAIN, SAY, 1, 0);
        isText("e is B of a WHILE",
            with(TEST, 0, 0, 5, TEST, 1, 1, 3, GO, 0, 0, 5, SAY, 1, 0, 0, GO, 0, 0, 0), 0,
            1, WHILE, 0, 0, 2, IF, 1, 1, 1, BREAK, PLAIN, SAY, 1, 0);
        isText("e is B of a DO", with(TEST, 1, 1, 2, GO, 0, 0, 4, SAY, 1, 0, 0, TEST, 2, 2, 0), 0,
            1, DO, 2, 2, 2, IF, 1, 1, 1, BREAK, PLAIN, SAY, 1, 0);
    }

    private void elseByAGoAlone() {
        due.says(READING, "if ACT t - 1 is a GO to e");
        isText("a TEST", with(TEST, 1, 1, 2, TEST, 2, 2, 3, SAY, 1, 0, 0), 0,
            2, IF, 1, 1, 1, JUMP_IF, 2, 2, 3, PLAIN, SAY, 1, 0);
        isText("ACT t is one", with(TEST, 1, 1, 2, SAY, 1, 0, 0, GO, 0, 0, 4, SAY, 2, 0, 0), 0,
            3, IF, 1, 1, 1, PLAIN, SAY, 1, 0, JUMP, 4, PLAIN, SAY, 2, 0);
        isText("ACT t - 2 is one", with(TEST, 1, 1, 3, GO, 0, 0, 4, SAY, 1, 0, 0, SAY, 2, 0, 0), 0,
            2, IF, 1, 1, 2, JUMP, 4, PLAIN, SAY, 1, 0, PLAIN, SAY, 2, 0);
    }

    private void elseAboveKAlone() {
        due.says(READING, "and t - 1 is above k: IF ELSE");
        isText("t - 1 is k", with(GO, 0, 0, 3, TEST, 1, 1, 2, SAY, 1, 0, 0), 0,
            3, JUMP, 3, IF, 1, 1, 0, PLAIN, SAY, 1, 0);
        isText("t - 1 is k + 1", with(TEST, 1, 1, 2, GO, 0, 0, 3, SAY, 1, 0, 0), 0,
            1, IF_ELSE, 1, 1, 0, 1, PLAIN, SAY, 1, 0);
    }

    private void elseBodies() {
        due.says(READING, "IF ELSE, of k + 1 up to ahead of t - 1, and of t up to ahead of e");
        isText("two and two",
            with(TEST, 1, 1, 4, SAY, 1, 0, 0, SAY, 2, 0, 0, GO, 0, 0, 6, SAY, 3, 0, 0, SAY, 4, 0, 0, SAY, 5, 0, 0), 0,
            2, IF_ELSE, 1, 1, 2, PLAIN, SAY, 1, 0, PLAIN, SAY, 2, 0, 2, PLAIN, SAY, 3, 0, PLAIN, SAY, 4, 0,
            PLAIN, SAY, 5, 0);
        isText("j of the first is t - 1: beyond is a JUMP IF",
            with(TEST, 1, 1, 4, TEST, 2, 2, 4, SAY, 1, 0, 0, GO, 0, 0, 5, SAY, 2, 0, 0), 0,
            1, IF_ELSE, 1, 1, 2, JUMP_IF, 2, 2, 4, PLAIN, SAY, 1, 0, 1, PLAIN, SAY, 2, 0);
        isText("j of the first is t - 1: up to it is an IF",
            with(TEST, 1, 1, 4, TEST, 2, 2, 3, SAY, 1, 0, 0, GO, 0, 0, 5, SAY, 2, 0, 0), 0,
            1, IF_ELSE, 1, 1, 1, IF, 2, 2, 1, PLAIN, SAY, 1, 0, 1, PLAIN, SAY, 2, 0);
        isText("j of the second is e",
            with(TEST, 1, 1, 2, GO, 0, 0, 4, TEST, 2, 2, 4, SAY, 1, 0, 0, SAY, 2, 0, 0), 0,
            2, IF_ELSE, 1, 1, 0, 1, IF, 2, 2, 1, PLAIN, SAY, 1, 0, PLAIN, SAY, 2, 0);
    }

    private void goesOnBehindIfs() {
        due.says(READING, "k is e then; else IF, of k + 1 up to ahead of t: k is t then");
        StoryDecompile both = with(TEST, 1, 1, 2, GO, 0, 0, 4, SAY, 1, 0, 0, SAY, 2, 0, 0, TEST, 1, 1, 6,
            SAY, 3, 0, 0, SAY, 4, 0, 0);
        int[] begins = {0, 2, 3, 4, 5, 6};
        int[] behinds = {4, 3, 4, 6, 6, 7};
        due.is("STATEMENTS", both.of(0, 3), 6);
        for (int s = 0; s < 6; s++) {
            due.is("begin of " + s, both.statement(0, s, 1), begins[s]);
            due.is("behind " + s, both.statement(0, s, 2), behinds[s]);
        }
    }

    private void breakAndAgainAtHand() {
        due.says(READING, "both with the B, C at hand");
        isText("in an IF", with(SAY, 1, 0, 0, TEST, 1, 1, 4, TEST, 2, 2, 5, TEST, 3, 3, 0, GO, 0, 0, 0), 0,
            1, LOOP, 2, PLAIN, SAY, 1, 0, IF, 1, 1, 2, BREAK_IF, 2, 2, AGAIN_IF, 3, 3);
        isText("in both BODIES of an IF ELSE",
            with(TEST, 0, 0, 8, TEST, 1, 1, 5, TEST, 2, 2, 8, TEST, 3, 3, 0, GO, 0, 0, 7,
                TEST, 2, 3, 8, TEST, 3, 2, 0, GO, 0, 0, 0), 0,
            1, WHILE, 0, 0, 1, IF_ELSE, 1, 1, 2, BREAK_IF, 2, 2, AGAIN_IF, 3, 3, 2, BREAK_IF, 2, 3, AGAIN_IF, 3, 2);
        isText("behind a loop that is in it, B is the outer one again",
            with(SAY, 1, 0, 0, GO, 0, 0, 1, GO, 0, 0, 5, GO, 0, 0, 0, GO, 0, 0, 0), 0,
            1, LOOP, 4, PLAIN, SAY, 1, 0, LOOP, 0, BREAK, AGAIN);
    }

    private void jumpIfElse() {
        due.says(READING, "Else JUMP IF t.");
        isText("beyond j", with(SAY, 1, 0, 0, TEST, 2, 3, 4, GO, 0, 0, 0, SAY, 2, 0, 0), 0,
            2, LOOP, 2, PLAIN, SAY, 1, 0, JUMP_IF, 2, 3, 4, PLAIN, SAY, 2, 0);
        isText("below i", with(SAY, 1, 0, 0, SAY, 2, 0, 0, TEST, 2, 3, 0, TEST, 1, 1, 1, GO, 0, 0, 0), 0,
            1, LOOP, 2, PLAIN, SAY, 1, 0, DO, 1, 1, 2, PLAIN, SAY, 2, 0, JUMP_IF, 2, 3, 0);
    }

    private void oneMoreWhereNothingIsTold() {
        due.says(READING, "Where nothing is told, k becomes 1 more.");
        StoryDecompile x = with(GO, 0, 0, 8, TEST, 0, 0, 8, TEST, 0, 0, 0, GO, 0, 0, 7, TEST, 0, 0, 7, GO, 0, 0, 0,
            GO, 0, 0, 0, DONE, 0, 0, 0);
        int[] kinds = {LOOP, JUMP, JUMP_IF, AGAIN_IF, BREAK, BREAK_IF, AGAIN, PLAIN};
        int[] begins = {0, 0, 1, 2, 3, 4, 5, 7};
        due.is("STATEMENTS", x.of(0, 3), 8);
        for (int s = 0; s < 8; s++) {
            due.is("kind of " + s, x.statement(0, s, 0), kinds[s]);
            due.is("begin of " + s, x.statement(0, s, 1), begins[s]);
            due.is("behind " + s, x.statement(0, s, 2), s == 0 ? 7 : begins[s] + 1);
        }
    }

    private void goBreaks() {
        due.says(READING, "3 Else, being a GO to t: t is B: BREAK");
        isText("LOOP", with(GO, 0, 0, 2, GO, 0, 0, 0, SAY, 1, 0, 0), 0, 2, LOOP, 1, BREAK, PLAIN, SAY, 1, 0);
        isText("WHILE", with(TEST, 0, 0, 3, GO, 0, 0, 3, GO, 0, 0, 0), 0, 1, WHILE, 0, 0, 1, BREAK);
        isText("DO", with(GO, 0, 0, 2, TEST, 0, 0, 0), 0, 1, DO, 0, 0, 1, BREAK);
    }

    private void goAgains() {
        due.says(READING, "t is B: BREAK; C: AGAIN");
        isText("LOOP", with(SAY, 1, 0, 0, GO, 0, 0, 0, GO, 0, 0, 0), 0, 1, LOOP, 2, PLAIN, SAY, 1, 0, AGAIN);
        isText("WHILE", with(TEST, 0, 0, 3, GO, 0, 0, 0, GO, 0, 0, 0), 0, 1, WHILE, 0, 0, 1, AGAIN);
        isText("DO", with(GO, 0, 0, 1, TEST, 0, 0, 0), 0, 1, DO, 0, 0, 1, AGAIN);
    }

    private void goJumps() {
        due.says(READING, "C: AGAIN; else JUMP t");
        isText("to the next", with(GO, 0, 0, 1, SAY, 1, 0, 0), 0, 2, JUMP, 1, PLAIN, SAY, 1, 0);
        isText("to n", with(GO, 0, 0, 2, SAY, 1, 0, 0), 0, 2, JUMP, 2, PLAIN, SAY, 1, 0);
        isText("to k of a DO", with(SAY, 1, 0, 0, GO, 0, 0, 0, TEST, 0, 0, 0), 0,
            1, DO, 0, 0, 2, PLAIN, SAY, 1, 0, JUMP, 0);
        isText("to m of a LOOP", with(GO, 0, 0, 2, SAY, 1, 0, 0, GO, 0, 0, 0), 0,
            1, LOOP, 2, JUMP, 2, PLAIN, SAY, 1, 0);
    }

    private void elseTheAct() {
        due.says(READING, "4 Else the ACT.");
        isText("each that is no jump", with(SAY, MIN, 0, 0, ADD, 3, MAX, 0, DONE, 0, 0, 0, CALL, 11, 0, 0), 0,
            4, PLAIN, SAY, MIN, 0, PLAIN, ADD, 3, MAX, PLAIN, DONE, 0, 0, PLAIN, CALL, 11, 0);
    }

    private void treeUpToN() {
        due.says(READING, "A TREE is READ from 0 up to ahead of n.");
        due.is("no ACTS", with().of(0, 3), 0);
        due.is("one ACT", with(SAY, 1, 0, 0).of(0, 3), 1);
        StoryDecompile x = with(times(60, SAY, 1, 0, 0));
        due.is("60 ACTS", x.of(0, 3), 60);
        due.is("the last one", x.statement(0, 59, 1), 59);
        due.is("behind it is n", x.statement(0, 59, 2), 60);
        StoryDecompile longest = with(times(60, TEST, 0, 0, 60));
        due.is("60 IFS in one another", longest.statement(0, 59, 0), IF);
        due.is("behind the first is n", longest.statement(0, 0, 2), 60);
    }

    private void numberedAsTheyBegin() {
        due.says(READING, "STATEMENTS are numbered as they begin: each ahead of what is in its BODIES");
        StoryDecompile x = with(SAY, 1, 0, 0, SAY, 2, 0, 0, TEST, 0, 0, 4, SAY, 3, 0, 0, TEST, 1, 0, 1, GO, 0, 0, 0, SAY, 4, 0, 0);
        int[] kinds = {LOOP, PLAIN, DO, PLAIN, AGAIN_IF, PLAIN, PLAIN};
        int[] parents = {NONE, 0, 0, 2, 2, 2, NONE};
        for (int s = 0; s < kinds.length; s++) {
            due.is("kind of " + s, x.statement(0, s, 0), kinds[s]);
            due.is(s + " lies in", x.statement(0, s, 3), parents[s]);
        }
    }

    private void firstBodyAheadOfTheSecond() {
        due.says(READING, "the first BODY ahead of the second one, these in order");
        StoryDecompile x = with(TEST, 0, 0, 4, SAY, 1, 0, 0, TEST, 1, 0, 3, GO, 0, 0, 6, SAY, 2, 0, 0, SAY, 3, 0, 0, SAY, 4, 0, 0);
        int[] begins = {0, 1, 2, 4, 5, 6};
        int[] bodies = {NONE, 0, 0, 1, 1, NONE};
        due.is("STATEMENTS", x.of(0, 3), 6);
        for (int s = 0; s < begins.length; s++) {
            due.is("begin of " + s, x.statement(0, s, 1), begins[s]);
            due.is("BODY of " + s, x.statement(0, s, 4), bodies[s]);
        }
    }
}
