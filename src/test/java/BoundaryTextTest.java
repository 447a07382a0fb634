/**
 * Terms, TEXT, WRITING, THE TAPE and its FAULTS: a test for each sentence that names a boundary
 * case. says() tells which one it is.
 */
public final class BoundaryTextTest extends Rows {
    private static final String TEXT = "Terms, TEXT";
    private static final String WRITING = "Terms, WRITING";
    private static final String TAPE = "Terms, THE TAPE";

    private BoundaryTextTest() {
        super("BoundaryTextTest");
    }

    public static void main(String[] args) {
        new BoundaryTextTest().all();
    }

    private void all() {
        bodyTellsHowMany();
        eachKindHasItsNumbers();
        textOfNoActs();
        textOfSixtyActs();
        otherWayRound();
        writesDo();
        writesLoop();
        writesWhile();
        writesIf();
        writesIfElse();
        breakLeadsBehind();
        againOfLoop();
        againOfWhile();
        againOfDo();
        innermostLoop();
        tapeOf300();
        firstFaultByPlace();
        fault1TapeEnds();
        fault1FarEnd();
        fault2NoKind();
        fault2TooManyBodies();
        fault2AtHowMany();
        fault2BodiesBehindOneAnother();
        fault3BelowNone();
        fault4KindOfAct();
        fault4OfAdd();
        fault4OfCall();
        fault4OfTests();
        fault4SayAndAddTakeAll();
        fault4NoUse();
        fault5InNoLoop();
        fault5InALoop();
        fault6BelowNone();
        fault7NumbersMore();
        fault8SixtyActs();
        fault9AboveHowMany();
        lateFaultsInOrder();
        lateFaultsPlace();
        due.end();
    }

    private void bodyTellsHowMany() {
        due.says(TEXT, "A BODY is how many STATEMENTS it has, then these");
        isText("none", with(TEST, 0, 0, 1), 0, 1, IF, 0, 0, 0);
        isText("its own alone, not what lies in them", with(TEST, 0, 0, 3, SAY, 1, 0, 0, SAY, 2, 0, 0), 0,
            1, IF, 0, 0, 2, PLAIN, SAY, 1, 0, PLAIN, SAY, 2, 0);
        isWritten("none", row(0));
        isWritten("two", row(2, PLAIN, SAY, 1, 0, PLAIN, SAY, 2, 0), SAY, 1, 0, 0, SAY, 2, 0, 0);
    }

    private void eachKindHasItsNumbers() {
        due.says(TEXT, "0 the ACT's kind, a, b; 1, 4, 5 the TEST's a, b, its BODY; 2 a, b, both BODIES; "
            + "3 its BODY; 6, 7 nothing; 8 c; 9, 10 a, b; 11 a, b, c.");
        StoryDecompile x = with(
            SAY, 7, 0, 0,
            TEST, 1, 2, 2,
            TEST, 2, 3, 4, GO, 0, 0, 5, SAY, 8, 0, 0,
            TEST, 3, 4, 9, TEST, 1, 3, 9, TEST, 1, 4, 5, GO, 0, 0, 5,
            GO, 0, 0, 12, GO, 0, 0, 9, GO, 0, 0, 9,
            TEST, 3, 5, 15, TEST, 2, 5, 16, TEST, 0, 1, 12,
            GO, 0, 0, 16);
        isText("all kinds", x, 0,
            7, PLAIN, SAY, 7, 0,
            IF, 1, 2, 0,
            IF_ELSE, 2, 3, 0, 1, PLAIN, SAY, 8, 0,
            WHILE, 3, 4, 2, BREAK_IF, 1, 3, AGAIN_IF, 1, 4,
            LOOP, 2, BREAK, AGAIN,
            DO, 0, 1, 2, BREAK_IF, 3, 5, JUMP_IF, 2, 5, 16,
            JUMP, 16);
    }

    private void textOfNoActs() {
        due.says(TEXT, "The TEXT of a ROUTINE is the BODY that its TREE is.");
        isText("no ACTS", with(), 0, 0);
        due.is("it has one number", with().text(0, NONE), 1);
        due.is("which is 0", with().text(0, 0), 0);
        due.is("and none behind", with().text(0, 1), BAD);
    }

    private void textOfSixtyActs() {
        due.says(TEXT, "The TEXT of a ROUTINE is the BODY that its TREE is.");
        StoryDecompile x = with(times(60, ADD, 3, 9, 0));
        due.is("60 ACTS: how many numbers", x.text(0, NONE), 241);
        due.is("60 ACTS: how many STATEMENTS", x.text(0, 0), 60);
        due.is("60 ACTS: its last number", x.text(0, 240), 9);
        due.is("60 ACTS: behind", x.text(0, 241), BAD);
        StoryDecompile deep = with(times(60, TEST, 1, 2, 60));
        due.is("60 IFS: how many numbers", deep.text(0, NONE), 241);
        due.is("60 IFS: the innermost BODY", deep.text(0, 240), 0);
        due.is("60 IFS: the innermost IF", deep.text(0, 237), IF);
    }

    private void otherWayRound() {
        due.says(WRITING, "WRITING is the other way round: STATEMENTS one behind the other become ACTS");
        int[][] rows = {{}, times(60, TEST, 1, 2, 60), times(60, GO, 0, 0, 0), times(60, TEST, 1, 2, 59), times(60, TEST, 3, 1, 30),
            joined(times(30, TEST, 1, 2, 59), times(30, GO, 0, 0, 7)), joined(times(59, CALL, 11, 0, 0), row(TEST, 0, 0, 0))};
        for (int[] acts : rows) {
            StoryDecompile x = with(acts);
            due.is("a TEXT comes on THE TAPE", x.copy(0), x.text(0, NONE));
            due.is("it is written", x.write(), 1);
            due.is("the same act by act", x.like(0, 1), 1);
        }
    }

    private void writesDo() {
        due.says(WRITING, "DO its BODY and the TEST to where that began");
        isWritten("without a BODY", row(1, DO, 3, 5, 0), TEST, 3, 5, 0);
        isWritten("behind others", row(2, PLAIN, SAY, 1, 0, DO, 3, 5, 1, PLAIN, SAY, 2, 0),
            SAY, 1, 0, 0, SAY, 2, 0, 0, TEST, 3, 5, 1);
    }

    private void writesLoop() {
        due.says(WRITING, "LOOP its BODY and a GO to there");
        isWritten("without a BODY", row(1, LOOP, 0), GO, 0, 0, 0);
        isWritten("behind others", row(2, PLAIN, SAY, 1, 0, LOOP, 1, PLAIN, SAY, 2, 0),
            SAY, 1, 0, 0, SAY, 2, 0, 0, GO, 0, 0, 1);
    }

    private void writesWhile() {
        due.says(WRITING, "WHILE a TEST to behind it, its BODY, a GO to the TEST");
        isWritten("without a BODY", row(1, WHILE, 3, 5, 0), TEST, 3, 5, 2, GO, 0, 0, 0);
        isWritten("behind others", row(3, PLAIN, SAY, 1, 0, WHILE, 3, 5, 1, PLAIN, SAY, 2, 0, PLAIN, DONE, 0, 0),
            SAY, 1, 0, 0, TEST, 3, 5, 4, SAY, 2, 0, 0, GO, 0, 0, 1, DONE, 0, 0, 0);
    }

    private void writesIf() {
        due.says(WRITING, "IF a TEST to behind its BODY");
        isWritten("without a BODY", row(1, IF, 3, 5, 0), TEST, 3, 5, 1);
        isWritten("behind others", row(3, PLAIN, SAY, 1, 0, IF, 3, 5, 1, PLAIN, SAY, 2, 0, PLAIN, DONE, 0, 0),
            SAY, 1, 0, 0, TEST, 3, 5, 3, SAY, 2, 0, 0, DONE, 0, 0, 0);
    }

    private void writesIfElse() {
        due.says(WRITING, "IF ELSE a TEST to the second BODY, the first one, a GO behind the second one");
        isWritten("both without STATEMENTS", row(1, IF_ELSE, 3, 5, 0, 0), TEST, 3, 5, 2, GO, 0, 0, 2);
        isWritten("the first without", row(1, IF_ELSE, 3, 5, 0, 1, PLAIN, SAY, 1, 0),
            TEST, 3, 5, 2, GO, 0, 0, 3, SAY, 1, 0, 0);
        isWritten("the second without", row(1, IF_ELSE, 3, 5, 1, PLAIN, SAY, 1, 0, 0),
            TEST, 3, 5, 3, SAY, 1, 0, 0, GO, 0, 0, 3);
        isWritten("one in the first BODY of one",
            row(1, IF_ELSE, 0, 0, 1, IF_ELSE, 1, 1, 0, 1, PLAIN, SAY, 1, 0, 1, PLAIN, SAY, 2, 0),
            TEST, 0, 0, 5, TEST, 1, 1, 3, GO, 0, 0, 4, SAY, 1, 0, 0, GO, 0, 0, 6, SAY, 2, 0, 0);
    }

    private void breakLeadsBehind() {
        due.says(WRITING, "BREAK, AGAIN lead behind and to the innermost loop that they stand in");
        isWritten("LOOP", row(1, LOOP, 2, BREAK, BREAK_IF, 1, 2), GO, 0, 0, 3, TEST, 1, 2, 3, GO, 0, 0, 0);
        isWritten("WHILE", row(1, WHILE, 0, 0, 2, BREAK, BREAK_IF, 1, 2),
            TEST, 0, 0, 4, GO, 0, 0, 4, TEST, 1, 2, 4, GO, 0, 0, 0);
        isWritten("DO", row(1, DO, 0, 0, 2, BREAK, BREAK_IF, 1, 2), GO, 0, 0, 3, TEST, 1, 2, 3, TEST, 0, 0, 0);
    }

    private void againOfLoop() {
        due.says(WRITING, "AGAIN of LOOP to where it begins");
        isWritten("LOOP", row(2, PLAIN, SAY, 1, 0, LOOP, 3, PLAIN, SAY, 2, 0, AGAIN, AGAIN_IF, 1, 2),
            SAY, 1, 0, 0, SAY, 2, 0, 0, GO, 0, 0, 1, TEST, 1, 2, 1, GO, 0, 0, 1);
    }

    private void againOfWhile() {
        due.says(WRITING, "of WHILE, DO to the TEST");
        isWritten("WHILE", row(2, PLAIN, SAY, 1, 0, WHILE, 0, 0, 3, PLAIN, SAY, 2, 0, AGAIN, AGAIN_IF, 1, 2),
            SAY, 1, 0, 0, TEST, 0, 0, 6, SAY, 2, 0, 0, GO, 0, 0, 1, TEST, 1, 2, 1, GO, 0, 0, 1);
    }

    private void againOfDo() {
        due.says(WRITING, "of WHILE, DO to the TEST");
        isWritten("DO", row(2, PLAIN, SAY, 1, 0, DO, 0, 0, 3, AGAIN, AGAIN_IF, 1, 2, PLAIN, SAY, 2, 0),
            SAY, 1, 0, 0, GO, 0, 0, 4, TEST, 1, 2, 4, SAY, 2, 0, 0, TEST, 0, 0, 1);
    }

    private void innermostLoop() {
        due.says(WRITING, "the innermost loop that they stand in");
        isWritten("ahead of, in and behind one", row(1, LOOP, 5, BREAK, AGAIN, DO, 1, 1, 2, BREAK, AGAIN, BREAK, AGAIN),
            GO, 0, 0, 8, GO, 0, 0, 0, GO, 0, 0, 5, GO, 0, 0, 4, TEST, 1, 1, 2, GO, 0, 0, 8, GO, 0, 0, 0, GO, 0, 0, 0);
        isWritten("through IF and IF ELSE", row(1, WHILE, 0, 0, 1, IF_ELSE, 1, 1, 1, IF, 2, 2, 1, BREAK, 1, AGAIN),
            TEST, 0, 0, 7, TEST, 1, 1, 5, TEST, 2, 2, 4, GO, 0, 0, 7, GO, 0, 0, 6, GO, 0, 0, 0, GO, 0, 0, 0);
    }

    private void tapeOf300() {
        due.says(TAPE, "THE TAPE is a row of up to 300 numbers.");
        StoryDecompile x = new StoryDecompile();
        for (int i = 1; i <= 300; i++) {
            due.is("number " + i, x.feed(-i), i);
        }
        due.is("number 301", x.feed(-301), FULL);
        due.is("the first is the first still", x.write(), -13);
        due.is("at its place", x.fault(), 0);
    }

    private void firstFaultByPlace() {
        due.says(TAPE, "As a TEXT it has FAULTS, the first by the place of the number at which it shows");
        isFault("4, then 2", 4, 3, 2, PLAIN, ADD, 4, 0, 12);
        isFault("2, then 4", 2, 1, 2, 12, PLAIN, ADD, 4, 0);
        isFault("6, then 5", 6, 2, 2, JUMP, -1, BREAK);
        isFault("5, then 4", 5, 1, 1, BREAK_IF, 4, 6);
        isFault("4 of a, then 4 of b", 4, 2, 1, IF, 4, 6, -1);
        isFault("4, then 1", 4, 2, 1, PLAIN, TEST);
        isFault("3, then 1", 3, 2, 1, LOOP, -1);
        isFault("4, then 6", 4, 3, 1, JUMP_IF, 0, 6, -1);
        isFault("1, then 9", 1, 3, 2, JUMP, 60);
        isFault("2, then 8", 2, 241, joined(row(61), times(60, PLAIN, DONE, 0, 0), row(-1)));
    }

    private void fault1TapeEnds() {
        due.says(TAPE, "1 the TAPE ends");
        isFault("no numbers", 1, 0);
        isFault("no kind", 1, 1, 1);
        isFault("no kind of an ACT", 1, 2, 1, PLAIN);
        isFault("no a of an ACT", 1, 3, 1, PLAIN, SAY);
        isFault("no b of an ACT", 1, 4, 1, PLAIN, SAY, 1);
        isFault("no second one", 1, 5, 2, PLAIN, SAY, 1, 0);
        for (int kind : row(IF, IF_ELSE, WHILE, DO, JUMP_IF)) {
            isFault("no a of " + kind, 1, 2, 1, kind);
            isFault("no b of " + kind, 1, 3, 1, kind, 0);
            isFault("no BODY or c of " + kind, 1, 4, 1, kind, 0, 0);
        }
        isFault("no second BODY", 1, 5, 1, IF_ELSE, 0, 0, 0);
        isFault("no BODY of LOOP", 1, 2, 1, LOOP);
        isFault("no c of JUMP", 1, 2, 1, JUMP);
        isFault("no a of BREAK IF", 1, 4, 1, LOOP, 1, BREAK_IF);
        isFault("no b of AGAIN IF", 1, 5, 1, LOOP, 1, AGAIN_IF, 0);
    }

    private void fault1FarEnd() {
        due.says(TAPE, "1 the TAPE ends");
        isFault("a full TAPE", 1, 300, joined(row(MAX), times(149, JUMP, 0), row(JUMP)));
        isFault("one STATEMENT more than a full TAPE has", 1, 300, joined(row(1, LOOP, 298), times(297, BREAK)));
        isFault("MAX, and none", 1, 1, MAX);
        isFault("MAX in a BODY", 1, 3, 1, LOOP, MAX);
    }

    private void fault2NoKind() {
        due.says(TAPE, "2 a kind that is none");
        for (int kind : row(MIN, -1, 12, MAX)) {
            isFault("kind " + kind, 2, 1, 1, kind);
            isFault("kind " + kind + " in a BODY", 2, 3, 1, LOOP, 1, kind, 0);
        }
        isWritten("kind 0 is one", row(1, PLAIN, DONE, 0, 0), DONE, 0, 0, 0);
        isWritten("kind 11 is one", row(1, JUMP_IF, 0, 0, 0), TEST, 0, 0, 0);
    }

    /** As many of one kind in one another, the innermost BODY with this many STATEMENTS. */
    private static int[] nested(int many, int innermost, int... kind) {
        int[] opened = joined(row(1), kind);
        int[] row = joined(times(many, opened), row(innermost));
        // The second BODIES, which close them.
        return kind[0] == IF_ELSE ? joined(row, times(many, 0)) : row;
    }

    private void fault2TooManyBodies() {
        due.says(TAPE, "2 a kind that is none, or more than 61 BODIES in one another");
        int[][] kinds = {{IF, 0, 0}, {LOOP}, {DO, 0, 0}};
        for (int[] kind : kinds) {
            StoryDecompile x = new StoryDecompile();
            tape(x, nested(60, 0, kind));
            due.is("61 of " + kind[0], x.write(), 0);
            due.is("61 of " + kind[0] + ": ACTS", x.of(0, 0), 60);
            due.is("61 of " + kind[0] + ": no FAULT", x.fault(), NONE);
            isFault("62 of " + kind[0], 2, 61 * (1 + kind.length), nested(61, 0, kind));
        }
        isFault("62 of WHILE, ahead of 8", 2, 61 * 4, nested(61, 0, WHILE, 0, 0));
        isFault("61 of WHILE are too many ACTS alone", 8, 60 * 4 + 1, nested(60, 0, WHILE, 0, 0));
        isFault("62 of IF ELSE", 2, 61 * 4, joined(times(61, 1, IF_ELSE, 0, 0), row(0)));
    }

    private void fault2AtHowMany() {
        due.says(TAPE, "more than 61 BODIES in one another (at how many the last one has)");
        isFault("0 in the last one", 2, 122, nested(61, 0, LOOP));
        isFault("1 in the last one", 2, 122, nested(61, 1, LOOP));
        isFault("no number there", 1, 122, times(61, 1, LOOP));
        int[] deep = joined(times(59, 1, LOOP), row(1, IF_ELSE, 0, 0, 0, 1, LOOP, 0));
        isFault("below a second BODY", 2, 125, deep);
        StoryDecompile x = new StoryDecompile();
        tape(x, joined(times(58, 1, LOOP), row(1, IF_ELSE, 0, 0, 0, 0)));
        due.is("a second BODY is as deep as the first", x.write(), 0);
    }

    private void fault2BodiesBehindOneAnother() {
        due.says(TAPE, "more than 61 BODIES in one another");
        StoryDecompile x = new StoryDecompile();
        tape(x, joined(row(60), times(60, LOOP, 0)));
        due.is("61 BODIES, two in one another", x.write(), 0);
        isFault("70 of them are too many ACTS alone", 8, 141, joined(row(70), times(70, LOOP, 0)));
    }

    private void fault3BelowNone() {
        due.says(TAPE, "3 how many is below 0");
        for (int many : row(-1, MIN)) {
            isFault("of the TREE", 3, 0, many);
            isFault("of a LOOP", 3, 2, 1, LOOP, many);
            for (int kind : row(IF, IF_ELSE, WHILE, DO)) {
                isFault("of " + kind, 3, 4, 1, kind, 0, 0, many);
            }
            isFault("of a second BODY", 3, 5, 1, IF_ELSE, 0, 0, 0, many);
        }
        isWritten("0 is none", row(0));
    }

    private void fault4KindOfAct() {
        due.says(TAPE, "4 the kind of an ACT is none of 0, 1, 4, 5");
        for (int kind : row(MIN, -1, GO, TEST, 6, MAX)) {
            isFault("kind " + kind, 4, 2, 1, PLAIN, kind, 0, 0);
        }
        for (int kind : row(SAY, ADD, DONE, CALL)) {
            isWritten("kind " + kind, row(1, PLAIN, kind, 0, 0), kind, 0, 0, 0);
        }
    }

    private void fault4OfAdd() {
        due.says(TAPE, "an a, b is none that it may have");
        for (int a : row(MIN, -1, 4, MAX)) {
            isFault("ADD " + a, 4, 3, 1, PLAIN, ADD, a, 0);
        }
        isWritten("ADD 0", row(1, PLAIN, ADD, 0, 5), ADD, 0, 5, 0);
        isWritten("ADD 3", row(1, PLAIN, ADD, 3, 5), ADD, 3, 5, 0);
    }

    private void fault4OfCall() {
        due.says(TAPE, "an a, b is none that it may have");
        for (int a : row(MIN, -1, 12, MAX)) {
            isFault("CALL " + a, 4, 3, 1, PLAIN, CALL, a, 0);
        }
        isWritten("CALL 0", row(1, PLAIN, CALL, 0, 0), CALL, 0, 0, 0);
        isWritten("CALL 11", row(1, PLAIN, CALL, 11, 0), CALL, 11, 0, 0);
    }

    private void fault4OfTests() {
        due.says(TAPE, "(also a TEST's;");
        for (int kind : row(IF, IF_ELSE, WHILE, DO, JUMP_IF)) {
            for (int wrong : row(MIN, -1, 6, MAX)) {
                isFault("a of " + kind, 4, 2, 1, kind, wrong, 0, 0, 0);
                isFault("b of " + kind, 4, 3, 1, kind, 0, wrong, 0, 0);
            }
            isFault("a 4 of " + kind, 4, 2, 1, kind, 4, 5, 0, 0);
        }
        for (int kind : row(BREAK_IF, AGAIN_IF)) {
            for (int wrong : row(MIN, -1, 6, MAX)) {
                isFault("a of " + kind, 4, 4, 1, LOOP, 1, kind, wrong, 0);
                isFault("b of " + kind, 4, 5, 1, LOOP, 1, kind, 0, wrong);
            }
            isFault("a 4 of " + kind, 4, 4, 1, LOOP, 1, kind, 4, 5);
        }
        isWritten("a 3, b 5", row(1, IF, 3, 5, 0), TEST, 3, 5, 1);
        isWritten("a 0, b 0", row(1, IF, 0, 0, 0), TEST, 0, 0, 1);
    }

    private void fault4SayAndAddTakeAll() {
        due.says(TAPE, "an a, b is none that it may have");
        for (int v : row(MIN, -1, 61, MAX)) {
            isWritten("SAY " + v, row(1, PLAIN, SAY, v, 0), SAY, v, 0, 0);
            isWritten("ADD 1 " + v, row(1, PLAIN, ADD, 1, v), ADD, 1, v, 0);
        }
    }

    private void fault4NoUse() {
        due.says(TAPE, "b of SAY, CALL, a and b of DONE are 0");
        for (int v : row(MIN, -1, 1, MAX)) {
            isFault("b of SAY", 4, 4, 1, PLAIN, SAY, 1, v);
            isFault("b of CALL", 4, 4, 1, PLAIN, CALL, 1, v);
            isFault("a of DONE", 4, 3, 1, PLAIN, DONE, v, 0);
            isFault("b of DONE", 4, 4, 1, PLAIN, DONE, 0, v);
        }
    }

    private void fault5InNoLoop() {
        due.says(TAPE, "5 BREAK, AGAIN (9, 10: too) in no loop");
        for (int kind : row(BREAK, AGAIN, BREAK_IF, AGAIN_IF)) {
            isFault("in the TREE", 5, 1, 1, kind, 0, 0);
            isFault("in an IF", 5, 5, 1, IF, 0, 0, 1, kind, 0, 0);
            isFault("in an ELSE", 5, 6, 1, IF_ELSE, 0, 0, 0, 1, kind, 0, 0);
            isFault("behind a LOOP", 5, 3, 2, LOOP, 0, kind, 0, 0);
            isFault("behind a WHILE", 5, 5, 2, WHILE, 0, 0, 0, kind, 0, 0);
            isFault("behind a DO", 5, 5, 2, DO, 0, 0, 0, kind, 0, 0);
            isFault("ahead of a LOOP", 5, 1, 2, kind, 0, 0, LOOP, 0);
        }
        isFault("with nothing behind", 5, 1, 1, BREAK_IF);
    }

    private void fault5InALoop() {
        due.says(TAPE, "5 BREAK, AGAIN (9, 10: too) in no loop");
        isWritten("in a LOOP", row(1, LOOP, 1, BREAK), GO, 0, 0, 2, GO, 0, 0, 0);
        isWritten("in a WHILE", row(1, WHILE, 0, 0, 1, AGAIN), TEST, 0, 0, 3, GO, 0, 0, 0, GO, 0, 0, 0);
        isWritten("in a DO", row(1, DO, 0, 0, 1, BREAK_IF, 1, 1), TEST, 1, 1, 2, TEST, 0, 0, 0);
        isWritten("in an IF in a LOOP", row(1, LOOP, 1, IF, 0, 0, 1, AGAIN_IF, 1, 1),
            TEST, 0, 0, 2, TEST, 1, 1, 0, GO, 0, 0, 0);
        isWritten("behind a loop in a loop", row(1, LOOP, 2, LOOP, 0, BREAK), GO, 0, 0, 0, GO, 0, 0, 3, GO, 0, 0, 0);
        isWritten("JUMPS want none", row(2, JUMP, 0, JUMP_IF, 0, 0, 0), GO, 0, 0, 0, TEST, 0, 0, 0);
    }

    private void fault6BelowNone() {
        due.says(TAPE, "6 c is below 0");
        for (int c : row(-1, MIN)) {
            isFault("JUMP " + c, 6, 2, 1, JUMP, c);
            isFault("JUMP IF " + c, 6, 4, 1, JUMP_IF, 0, 0, c);
            isFault("JUMP " + c + " in a LOOP", 6, 4, 1, LOOP, 1, JUMP, c);
        }
        isWritten("JUMP 0", row(1, JUMP, 0), GO, 0, 0, 0);
        isWritten("JUMP IF 0", row(1, JUMP_IF, 1, 1, 0), TEST, 1, 1, 0);
    }

    private void fault7NumbersMore() {
        due.says(TAPE, "7 (at the place behind all) there are numbers more");
        isFault("one more", 7, 1, 0, 0);
        isFault("one more behind a STATEMENT", 7, 5, 1, PLAIN, DONE, 0, 0, PLAIN);
        isFault("many more", 7, 1, times(300, 0));
        isFault("more that would have FAULTS", 7, 3, 1, LOOP, 0, -1, 99);
        isFault("two TEXTS", 7, 3, 1, LOOP, 0, 1, LOOP, 0);
        isWritten("none more", row(1, LOOP, 0), GO, 0, 0, 0);
    }

    private void fault8SixtyActs() {
        due.says(TAPE, "8 more than 60 ACTS");
        StoryDecompile x = new StoryDecompile();
        tape(x, joined(row(60), times(60, PLAIN, DONE, 0, 0)));
        due.is("60 ACTS", x.write(), 0);
        due.is("60 ACTS are there", x.of(0, 0), 60);
        isFault("61 ACTS", 8, 245, joined(row(61), times(61, PLAIN, DONE, 0, 0)));
        isFault("61 by a LOOP's GO", 8, 243, joined(row(1, LOOP, 60), times(60, PLAIN, DONE, 0, 0)));
        isFault("61 by a DO's TEST", 8, 245, joined(row(1, DO, 0, 0, 60), times(60, PLAIN, DONE, 0, 0)));
        isFault("61 by an IF's TEST", 8, 245, joined(row(1, IF, 0, 0, 60), times(60, PLAIN, DONE, 0, 0)));
        isFault("61 by an ELSE's GO", 8, 242, joined(row(1, IF_ELSE, 0, 0, 0, 59), times(59, PLAIN, DONE, 0, 0)));
        isFault("61 by a WHILE's GO", 8, 241, joined(row(1, WHILE, 0, 0, 59), times(59, PLAIN, DONE, 0, 0)));
        isFault("61 by BREAKS", 8, 63, joined(row(1, LOOP, 60), times(60, BREAK)));
        isFault("298 ACTS", 8, 300, joined(row(1, LOOP, 297), times(297, AGAIN)));
        StoryDecompile jumps = new StoryDecompile();
        tape(jumps, joined(row(1, LOOP, 59), times(59, BREAK)));
        due.is("60 with BREAKS", jumps.write(), 0);
        due.is("the first leads to 60", jumps.told(0, 0, 3), 60);
        due.is("the last leads to 60", jumps.told(0, 58, 3), 60);
    }

    private void fault9AboveHowMany() {
        due.says(TAPE, "9 a c is above how many ACTS there are");
        isWritten("n", row(2, JUMP, 2, JUMP_IF, 1, 1, 2), GO, 0, 0, 2, TEST, 1, 1, 2);
        isFault("n + 1, JUMP", 9, 7, 2, JUMP, 3, JUMP_IF, 1, 1, 2);
        isFault("n + 1, JUMP IF", 9, 7, 2, JUMP, 2, JUMP_IF, 1, 1, 3);
        isFault("MAX", 9, 3, 1, JUMP, MAX);
        isFault("61 of one", 9, 5, 1, JUMP_IF, 0, 0, 61);
        isWritten("n by what comes later", row(2, JUMP, 3, WHILE, 0, 0, 0), GO, 0, 0, 3, TEST, 0, 0, 3, GO, 0, 0, 1);
        StoryDecompile x = new StoryDecompile();
        tape(x, joined(row(60, JUMP, 60), times(59, PLAIN, DONE, 0, 0)));
        due.is("60 of 60", x.write(), 0);
        isFault("61 of 60", 9, 239, joined(row(60, JUMP, 61), times(59, PLAIN, DONE, 0, 0)));
        isFault("60 of 59", 9, 235, joined(row(59, JUMP, 60), times(58, PLAIN, DONE, 0, 0)));
    }

    private void lateFaultsInOrder() {
        due.says(TAPE, "6 c is below 0; then: 7 (at the place behind all) there are numbers more; 8 more than 60 ACTS; 9");
        isFault("6 ahead of 7", 6, 2, 1, JUMP, -1, 0);
        isFault("7 ahead of 9", 7, 3, 1, JUMP, 2, 0);
        int[] many = joined(row(61), times(61, JUMP, 99));
        isFault("8 ahead of 9", 8, 123, many);
        isFault("7 ahead of 8", 7, 123, joined(many, row(0)));
    }

    private void lateFaultsPlace() {
        due.says(TAPE, "(7 to 9: all at the place behind the BODY)");
        isFault("7 at the first number more", 7, 3, 1, LOOP, 0, 7, 7, 7);
        isFault("8 behind the last number", 8, 63, joined(row(1, LOOP, 60), times(60, AGAIN)));
        isFault("9 behind the last number, not at c", 9, 7, 2, JUMP, 60, PLAIN, DONE, 0, 0);
        isFault("8 behind a full TAPE", 8, 300, joined(row(1, LOOP, 297), times(297, BREAK)));
        isFault("9 behind the longest", 9, 241, joined(row(60), times(60, JUMP_IF, 0, 0, 61)));
    }
}
