/** Each promise by hand: ordinary inputs, the edges that the document names, wrong inputs. */
public final class PromisesTest extends Rows {
    private PromisesTest() {
        super("PromisesTest");
    }

    public static void main(String[] args) {
        new PromisesTest().all();
    }

    private void all() {
        newObject();
        routine();
        act();
        alter();
        told();
        cameTo();
        of();
        statement();
        shortStatements();
        loops();
        ifs();
        text();
        feed();
        copy();
        write();
        writeFaults();
        lateFaults();
        faultPlace();
        clear();
        like();
        set();
        run();
        runEnds();
        ran();
        out();
        deepest();
        due.end();
    }

    private void newObject() {
        StoryDecompile x = new StoryDecompile();
        due.is("new of", x.of(0, 0), BAD);
        due.is("new told", x.told(0, 0, 0), BAD);
        due.is("new text", x.text(0, NONE), BAD);
        due.is("new statement", x.statement(0, 0, 0), BAD);
        due.is("new clear", x.clear(), 0);
        due.is("new fault", x.fault(), NONE);
        due.is("new run", x.run(0, 1), BAD);
        due.is("new out", x.out(0), BAD);
        for (int i = 0; i < 4; i++) {
            due.is("new register", x.set(i, 5), 0);
        }
    }

    private void routine() {
        StoryDecompile x = new StoryDecompile();
        for (int r = 0; r < 12; r++) {
            due.is("routine", x.routine(), r);
            due.is("routine without acts", x.of(r, 0), 0);
            due.is("routine without acts is whole", x.of(r, 1), 1);
        }
        due.is("routine 13", x.routine(), FULL);
        due.is("routine 13 is none", x.of(12, 0), BAD);
    }

    private void act() {
        StoryDecompile x = with();
        int[][] bad = {
            {1, SAY, 0, 0, 0}, {-1, SAY, 0, 0, 0}, {12, SAY, 0, 0, 0}, {0, -1, 0, 0, 0}, {0, 6, 0, 0, 0},
            {0, ADD, 4, 0, 0}, {0, ADD, -1, 0, 0}, {0, TEST, 4, 0, 0}, {0, TEST, -1, 0, 0},
            {0, TEST, 0, 6, 0}, {0, TEST, 0, -1, 0}, {0, TEST, 0, 0, 61}, {0, TEST, 0, 0, -1},
            {0, GO, 0, 0, 61}, {0, GO, 0, 0, -1}, {0, CALL, 12, 0, 0}, {0, CALL, -1, 0, 0}};
        for (int[] b : bad) {
            due.is("act BAD", x.act(b[0], b[1], b[2], b[3], b[4]), BAD);
        }
        due.is("nothing came", x.of(0, 0), 0);
        int[][] good = {
            {SAY, MIN, 7, 99, MIN, 0, 0}, {ADD, 3, MAX, 99, 3, MAX, 0}, {GO, 77, -7, 60, 0, 0, 60},
            {TEST, 3, 5, 60, 3, 5, 60}, {DONE, 5, 6, -7, 0, 0, 0}, {CALL, 11, 99, -1, 11, 0, 0}};
        for (int i = 0; i < good.length; i++) {
            int[] g = good[i];
            due.is("act", x.act(0, g[0], g[1], g[2], g[3]), i);
            due.is("its kind", x.told(0, i, 0), g[0]);
            due.is("its a", x.told(0, i, 1), g[4]);
            due.is("its b", x.told(0, i, 2), g[5]);
            due.is("its c", x.told(0, i, 3), g[6]);
        }
        for (int i = 6; i < 60; i++) {
            due.is("act", x.act(0, DONE, 0, 0, 0), i);
        }
        due.is("act 61", x.act(0, DONE, 0, 0, 0), FULL);
        due.is("act 61, BAD first", x.act(0, 6, 0, 0, 0), BAD);
        due.is("60 acts", x.of(0, 0), 60);
    }

    private void alter() {
        StoryDecompile x = with(SAY, 1, 0, 0, SAY, 2, 0, 0);
        due.is("alter", x.alter(0, 1, TEST, 2, 3, 2), 1);
        due.is("altered kind", x.told(0, 1, 0), TEST);
        due.is("altered a", x.told(0, 1, 1), 2);
        due.is("altered b", x.told(0, 1, 2), 3);
        due.is("altered c", x.told(0, 1, 3), 2);
        due.is("the other one", x.told(0, 0, 1), 1);
        due.is("statement of the altered one", x.statement(0, 1, 0), 1);
        due.is("alter to less", x.alter(0, 1, DONE, 9, 9, 9), 1);
        due.is("its c is 0", x.told(0, 1, 3), 0);
        due.is("its a is 0", x.told(0, 1, 1), 0);
        due.is("statement follows", x.statement(0, 1, 0), 0);
        due.is("alter behind", x.alter(0, 2, DONE, 0, 0, 0), BAD);
        due.is("alter ahead", x.alter(0, -1, DONE, 0, 0, 0), BAD);
        due.is("alter no routine", x.alter(1, 0, DONE, 0, 0, 0), BAD);
        due.is("alter kind", x.alter(0, 0, 6, 0, 0, 0), BAD);
        due.is("alter a", x.alter(0, 0, ADD, 4, 0, 0), BAD);
        due.is("alter b", x.alter(0, 0, TEST, 0, 6, 0), BAD);
        due.is("alter c", x.alter(0, 0, GO, 0, 0, 61), BAD);
        due.is("nothing changed", x.told(0, 0, 0), SAY);
        due.is("two acts still", x.of(0, 0), 2);
    }

    private void told() {
        // IF ELSE with its GO, then a WHILE with its GO, a LOOP, a DO.
        StoryDecompile x = with(
            TEST, 0, 0, 3, SAY, 1, 0, 0, GO, 0, 0, 4, SAY, 2, 0, 0,
            TEST, 1, 1, 7, ADD, 1, -1, 0, GO, 0, 0, 4,
            SAY, 3, 0, 0, GO, 0, 0, 7,
            SAY, 4, 0, 0, TEST, 2, 2, 9);
        int[] of = {0, 1, 0, 2, 3, 4, 3, 6, 5, 8, 7};
        for (int i = 0; i < of.length; i++) {
            due.is("told statement of act " + i, x.told(0, i, 4), of[i]);
        }
        due.is("told what 6", x.told(0, 0, 6), BAD);
        due.is("told what -1", x.told(0, 0, -1), BAD);
        due.is("told act 11", x.told(0, 11, 0), BAD);
        due.is("told act -1", x.told(0, -1, 0), BAD);
        due.is("told routine 1", x.told(1, 0, 0), BAD);
        x.act(0, GO, 0, 0, 60);
        due.is("told 4, not whole", x.told(0, 0, 4), NONE);
        due.is("told 5, not whole", x.told(0, 0, 5), NONE);
        due.is("told 0, not whole", x.told(0, 0, 0), TEST);
        due.is("told 6, not whole", x.told(0, 0, 6), BAD);
    }

    private void cameTo() {
        StoryDecompile x = with(
            GO, 0, 0, 3, SAY, 1, 0, 0, SAY, 2, 0, 0, TEST, 0, 0, 6, CALL, 0, 0, 0, DONE, 0, 0, 0,
            GO, 0, 0, 2, ADD, 0, 1, 0);
        int[] met = {1, 0, 1, 1, 1, 1, 1, 0};
        for (int i = 0; i < met.length; i++) {
            due.is("come to " + i, x.told(0, i, 5), met[i]);
        }
        due.is("not come to", x.of(0, 5), 2);
        StoryDecompile y = with(DONE, 0, 0, 0, SAY, 0, 0, 0);
        due.is("done leads nowhere", y.told(0, 1, 5), 0);
        due.is("act 0 is come to", y.told(0, 0, 5), 1);
        due.is("no acts, none not come to", with().of(0, 5), 0);
    }

    private void of() {
        StoryDecompile x = with(SAY, 1, 0, 0, TEST, 0, 0, 5, GO, 0, 0, 1, DONE, 0, 0, 0, SAY, 2, 0, 0);
        // SAY, LOOP with JUMP IF 5, DONE, SAY.
        int[] is = {5, 1, 0, 5, 1, 2, 2, 0};
        for (int what = 0; what < 8; what++) {
            due.is("of " + what, x.of(0, what), is[what]);
        }
        due.is("of 8", x.of(0, 8), BAD);
        due.is("of -1", x.of(0, -1), BAD);
        due.is("of routine 1", x.of(1, 0), BAD);
        due.is("of routine -1", x.of(-1, 0), BAD);
        x.alter(0, 1, TEST, 0, 0, 6);
        int[] broken = {5, 0, 0, NONE, NONE, NONE, NONE, NONE};
        for (int what = 0; what < 8; what++) {
            due.is("not whole: of " + what, x.of(0, what), broken[what]);
        }
        due.is("not whole: of 8", x.of(0, 8), BAD);
        due.is("empty: statements", with().of(0, 3), 0);
        due.is("empty: the tree is a body", with().of(0, 6), 1);
        due.is("jumps of both kinds", with(GO, 0, 0, 1, TEST, 0, 0, 3, TEST, 1, 0, 4, SAY, 0, 0, 0).of(0, 4), 2);
        ofOthers();
    }

    private void ofOthers() {
        StoryDecompile x = with(CALL, 1, 0, 0, CALL, 1, 0, 0);
        add(x, CALL, 1, 0, 0);
        add(x, GO, 0, 0, 60, CALL, 1, 0, 0);
        add(x, DONE, 0, 0, 0, CALL, 0, 0, 0);
        add(x, CALL, 1, 0, 0);
        due.is("callers: others, itself, not whole", x.of(1, 7), 4);
        due.is("callers: not come to", x.of(0, 7), 1);
        due.is("callers: none", x.of(3, 7), 0);
        due.is("callers of what is not whole", x.of(2, 7), NONE);
        due.is("least alike", x.of(4, 2), 1);
        due.is("least alike: itself", x.of(3, 2), 3);
        due.is("least alike: not whole", x.of(2, 2), 2);
    }

    private void statement() {
        // LOOP { IF { BREAK } IF ELSE { SAY } { SAY SAY } } SAY
        StoryDecompile x = with(
            TEST, 0, 0, 2, GO, 0, 0, 8, TEST, 1, 1, 5, SAY, 1, 0, 0, GO, 0, 0, 7, SAY, 2, 0, 0, SAY, 3, 0, 0,
            GO, 0, 0, 0, SAY, 4, 0, 0);
        int[][] is = {
            {3, 0, 8, NONE, NONE, 6}, {1, 0, 2, 0, 0, 1}, {6, 1, 2, 1, 0, 0}, {2, 2, 7, 0, 0, 3},
            {0, 3, 4, 3, 0, 0}, {0, 5, 6, 3, 1, 0}, {0, 6, 7, 3, 1, 0}, {0, 8, 9, NONE, NONE, 0}};
        for (int s = 0; s < is.length; s++) {
            for (int what = 0; what < 6; what++) {
                due.is("statement " + s + " what " + what, x.statement(0, s, what), is[s][what]);
            }
        }
        due.is("statement 8", x.statement(0, 8, 0), BAD);
        due.is("statement -1", x.statement(0, -1, 0), BAD);
        due.is("statement what 6", x.statement(0, 0, 6), BAD);
        due.is("statement what -1", x.statement(0, 0, -1), BAD);
        due.is("statement of no routine", x.statement(1, 0, 0), BAD);
        due.is("bodies in one another", x.of(0, 6), 3);
        x.act(0, GO, 0, 0, 60);
        due.is("not whole", x.statement(0, 0, 0), NO);
        due.is("not whole, ahead of s", x.statement(0, -5, 0), NO);
        due.is("not whole, behind what", x.statement(0, 0, 6), BAD);
    }

    /** Each kind of STATEMENT that is one ACT lies at its PLACE and ends behind it. */
    private void shortStatements() {
        StoryDecompile x = with(
            SAY, 1, 0, 0, TEST, 0, 0, 9, TEST, 0, 0, 1, GO, 0, 0, 9, GO, 0, 0, 1,
            TEST, 0, 0, 10, GO, 0, 0, 10, SAY, 2, 0, 0, GO, 0, 0, 1, ADD, 0, 1, 0,
            TEST, 0, 0, 14, SAY, 3, 0, 0, GO, 0, 0, 15, SAY, 9, 0, 0, SAY, 4, 0, 0);
        int[] kinds = {10, 6, 7, 11, 8, 0};
        due.is("WHILE", x.statement(0, 1, 0), 4);
        for (int i = 0; i < kinds.length; i++) {
            due.is("kind of " + kinds[i], x.statement(0, i + 2, 0), kinds[i]);
            due.is("begin of " + kinds[i], x.statement(0, i + 2, 1), i + 2);
            due.is("behind " + kinds[i], x.statement(0, i + 2, 2), i + 3);
            due.is("in what is " + kinds[i], x.statement(0, i + 2, 3), 1);
            due.is("inside of " + kinds[i], x.statement(0, i + 2, 5), 0);
        }
        due.is("behind the WHILE", x.statement(0, 1, 2), 9);
        due.is("IF beyond a GO that is no neighbour", x.statement(0, 9, 0), 1);
        x.alter(0, 13, GO, 0, 0, 15);
        due.is("IF ELSE", x.statement(0, 9, 0), 2);
        due.is("whose GO it is", x.told(0, 13, 4), 9);
        due.is("its first body", x.statement(0, 10, 4), 0);
        due.is("in its first body: JUMP", x.statement(0, 11, 0), 8);
        due.is("its second body", x.statement(0, 12, 4), 1);
        x.alter(0, 1, SAY, 0, 0, 0);
        due.is("LOOP", x.statement(0, 1, 0), 3);
        x.alter(0, 1, TEST, 0, 0, 3);
        due.is("LOOP", x.statement(0, 1, 0), 3);
        due.is("IF in it", x.statement(0, 2, 0), 1);
        x.alter(0, 4, TEST, 0, 0, 9);
        due.is("BREAK IF", x.statement(0, 5, 0), 9);
        due.is("behind BREAK IF", x.statement(0, 5, 2), 5);
    }

    private void loops() {
        isText("GO to itself", with(GO, 0, 0, 0), 0, 1, 3, 0);
        isText("TEST to itself", with(TEST, 1, 2, 0), 0, 1, 5, 1, 2, 0);
        isText("WHILE without a body", with(TEST, 0, 1, 2, GO, 0, 0, 0), 0, 1, 4, 0, 1, 0);
        isText("the last jump back decides: DO",
            with(SAY, 1, 0, 0, GO, 0, 0, 0, TEST, 0, 1, 0), 0,
            1, 5, 0, 1, 2, 0, 0, 1, 0, 8, 0);
        isText("the last jump back decides: LOOP",
            with(SAY, 1, 0, 0, TEST, 0, 1, 0, GO, 0, 0, 0), 0,
            1, 3, 2, 0, 0, 1, 0, 10, 0, 1);
        isText("a TEST not to behind is no WHILE",
            with(TEST, 0, 1, 3, GO, 0, 0, 0, SAY, 1, 0, 0), 0,
            2, 3, 1, 11, 0, 1, 3, 0, 0, 1, 0);
        isText("WHILE with BREAK, AGAIN and the same, if",
            with(TEST, 0, 1, 6, TEST, 1, 0, 6, TEST, 2, 0, 0, GO, 0, 0, 6, GO, 0, 0, 0, GO, 0, 0, 0), 0,
            1, 4, 0, 1, 4, 9, 1, 0, 10, 2, 0, 6, 7);
        isText("AGAIN of DO is to the TEST",
            with(SAY, 1, 0, 0, TEST, 0, 0, 3, GO, 0, 0, 3, TEST, 0, 1, 0), 0,
            1, 5, 0, 1, 3, 0, 0, 1, 0, 10, 0, 0, 7);
        isText("a loop in a loop, out of both",
            with(SAY, 1, 0, 0, SAY, 2, 0, 0, GO, 0, 0, 6, TEST, 1, 1, 1, GO, 0, 0, 6, GO, 0, 0, 0), 0,
            1, 3, 3, 0, 0, 1, 0, 5, 1, 1, 2, 0, 0, 2, 0, 8, 6, 6);
        isText("two jumps back to a place behind others",
            with(SAY, 5, 0, 0, SAY, 1, 0, 0, GO, 0, 0, 1, TEST, 0, 1, 1), 0,
            2, 0, 0, 5, 0, 5, 0, 1, 2, 0, 0, 1, 0, 8, 1);
        isText("BREAK of DO, and the same, if",
            with(TEST, 1, 3, 3, GO, 0, 0, 3, TEST, 0, 1, 0, SAY, 1, 0, 0), 0,
            2, 5, 0, 1, 2, 9, 1, 3, 6, 0, 0, 1, 0);
        isText("a TEST to itself where a DO begins",
            with(TEST, 0, 0, 0, SAY, 1, 0, 0, TEST, 1, 1, 0), 0,
            1, 5, 1, 1, 2, 11, 0, 0, 0, 0, 0, 1, 0);
        isText("a TEST to itself where a LOOP begins",
            with(TEST, 0, 0, 0, SAY, 1, 0, 0, GO, 0, 0, 0), 0,
            1, 3, 2, 10, 0, 0, 0, 0, 1, 0);
        isText("a GO to itself where a DO begins",
            with(GO, 0, 0, 0, TEST, 1, 1, 0), 0,
            1, 5, 1, 1, 1, 8, 0);
        isText("loops that begin behind one another in a loop",
            with(SAY, 1, 0, 0, SAY, 2, 0, 0, GO, 0, 0, 1, TEST, 0, 0, 0), 0,
            1, 5, 0, 0, 2, 0, 0, 1, 0, 3, 1, 0, 0, 2, 0);
        isText("a jump back from beyond what is read",
            with(TEST, 0, 0, 3, SAY, 1, 0, 0, SAY, 2, 0, 0, GO, 0, 0, 1), 0,
            2, 1, 0, 0, 2, 0, 0, 1, 0, 0, 0, 2, 0, 8, 1);
    }

    private void ifs() {
        isText("IF to the end", with(TEST, 0, 2, 2, SAY, 1, 0, 0), 0, 1, 1, 0, 2, 1, 0, 0, 1, 0);
        isText("IF without a body", with(TEST, 0, 3, 1), 0, 1, 1, 0, 3, 0);
        isText("the GO ahead is the TEST's own neighbour",
            with(TEST, 0, 0, 2, GO, 0, 0, 3, SAY, 1, 0, 0), 0,
            1, 2, 0, 0, 0, 1, 0, 0, 1, 0);
        isText("the GO leads to t: no ELSE",
            with(TEST, 0, 0, 2, GO, 0, 0, 2, SAY, 1, 0, 0), 0,
            2, 1, 0, 0, 1, 8, 2, 0, 0, 1, 0);
        isText("ACT t - 1 is the TEST itself",
            with(TEST, 0, 0, 1, SAY, 1, 0, 0), 0, 2, 1, 0, 0, 0, 0, 0, 1, 0);
        isText("the GO leads to B: IF with BREAK",
            with(TEST, 0, 0, 2, GO, 0, 0, 4, SAY, 1, 0, 0, GO, 0, 0, 0), 0,
            1, 3, 2, 1, 0, 0, 1, 6, 0, 0, 1, 0);
        isText("the GO leads to C of DO: IF with AGAIN",
            with(TEST, 0, 0, 2, GO, 0, 0, 3, SAY, 1, 0, 0, TEST, 1, 0, 0), 0,
            1, 5, 1, 0, 2, 1, 0, 0, 1, 7, 0, 0, 1, 0);
        isText("the GO leads beyond j: IF with JUMP",
            with(TEST, 0, 0, 4, TEST, 1, 0, 3, GO, 0, 0, 5, SAY, 1, 0, 0, SAY, 2, 0, 0), 0,
            2, 1, 0, 0, 2, 1, 1, 0, 1, 8, 5, 0, 0, 1, 0, 0, 0, 2, 0);
        isText("a TEST beyond j: JUMP IF",
            with(TEST, 0, 0, 3, TEST, 1, 4, 4, SAY, 2, 0, 0, SAY, 1, 0, 0), 0,
            2, 1, 0, 0, 2, 11, 1, 4, 4, 0, 0, 2, 0, 0, 0, 1, 0);
        isText("ELSE in ELSE",
            with(TEST, 0, 0, 3, SAY, 1, 0, 0, GO, 0, 0, 7, TEST, 1, 0, 6, SAY, 2, 0, 0, GO, 0, 0, 7, SAY, 3, 0, 0), 0,
            1, 2, 0, 0, 1, 0, 0, 1, 0, 1, 2, 1, 0, 1, 0, 0, 2, 0, 1, 0, 0, 3, 0);
    }

    private void text() {
        isText("none", with(), 0, 0);
        isText("acts", with(SAY, MIN, 0, 0, ADD, 3, MAX, 0, DONE, 0, 0, 0, CALL, 11, 0, 0), 0,
            4, 0, 0, MIN, 0, 0, 1, 3, MAX, 0, 4, 0, 0, 0, 5, 11, 0);
        StoryDecompile x = with(SAY, 1, 0, 0);
        due.is("text -2", x.text(0, -2), BAD);
        due.is("text MIN", x.text(0, MIN), BAD);
        due.is("text MAX", x.text(0, MAX), BAD);
        due.is("text of no routine", x.text(1, NONE), BAD);
        x.act(0, GO, 0, 0, 3);
        due.is("not whole", x.text(0, NONE), NO);
        due.is("not whole, 0", x.text(0, 0), NO);
        due.is("not whole, BAD first", x.text(0, -2), BAD);
        x.act(0, DONE, 0, 0, 0);
        due.is("whole by an act more", x.text(0, NONE), 11);
    }

    private void feed() {
        StoryDecompile x = new StoryDecompile();
        for (int i = 1; i <= 300; i++) {
            due.is("feed", x.feed(-i), i);
        }
        due.is("feed 301", x.feed(1), FULL);
        due.is("it has 300", x.clear(), 300);
        due.is("feed anew", x.feed(1), 1);
    }

    private void copy() {
        StoryDecompile x = with(SAY, 1, 0, 0, SAY, 2, 0, 0);
        due.is("copy", x.copy(0), 9);
        due.is("copy behind", x.copy(0), 18);
        due.is("copy of no routine", x.copy(1), BAD);
        due.is("copy of routine -1", x.copy(-1), BAD);
        x.clear();
        for (int i = 0; i < 291; i++) {
            x.feed(0);
        }
        due.is("copy that just fits", x.copy(0), 300);
        due.is("copy on a full tape", x.copy(0), FULL);
        copyTooLong();
    }

    private void copyTooLong() {
        StoryDecompile x = with(SAY, 1, 0, 0, SAY, 2, 0, 0);
        tape(x, times(292, 0));
        due.is("copy that is one too long", x.copy(0), FULL);
        due.is("nothing came", x.clear(), 292);
        x.act(0, GO, 0, 0, 9);
        due.is("copy of what is not whole", x.copy(0), NO);
        due.is("nothing came", x.clear(), 0);
    }

    private void write() {
        isWritten("nothing", new int[] {0});
        isWritten("LOOP", new int[] {1, 3, 3, 6, 7, 0, 0, 5, 0}, GO, 0, 0, 4, GO, 0, 0, 0, SAY, 5, 0, 0, GO, 0, 0, 0);
        isWritten("DO", new int[] {2, 0, 4, 0, 0, 5, 3, 5, 3, 6, 7, 0, 1, 0, -1},
            DONE, 0, 0, 0, GO, 0, 0, 5, GO, 0, 0, 4, ADD, 0, -1, 0, TEST, 3, 5, 1);
        isWritten("WHILE", new int[] {1, 4, 2, 1, 2, 9, 0, 0, 10, 1, 1},
            TEST, 2, 1, 4, TEST, 0, 0, 4, TEST, 1, 1, 0, GO, 0, 0, 0);
        isWritten("IF ELSE, the second body without statements", new int[] {1, 2, 0, 0, 1, 0, 0, 1, 0, 0},
            TEST, 0, 0, 3, SAY, 1, 0, 0, GO, 0, 0, 3);
        isWritten("jumps", new int[] {2, 8, 0, 11, 1, 2, 2}, GO, 0, 0, 0, TEST, 1, 2, 2);
        isWritten("of the innermost loop", new int[] {1, 3, 3, 3, 2, 6, 7, 6, 7},
            GO, 0, 0, 3, GO, 0, 0, 0, GO, 0, 0, 0, GO, 0, 0, 6, GO, 0, 0, 0, GO, 0, 0, 0);
        isWritten("in what is done if in a loop", new int[] {1, 5, 0, 1, 1, 2, 1, 0, 1, 7, 1, 6},
            TEST, 1, 0, 3, GO, 0, 0, 4, GO, 0, 0, 4, GO, 0, 0, 5, TEST, 0, 1, 0);
        StoryDecompile x = new StoryDecompile();
        for (int r = 0; r < 12; r++) {
            x.feed(0);
            due.is("written, a routine more", x.write(), r);
            due.is("the tape is empty", x.clear(), 0);
        }
        x.feed(99);
        due.is("write: 12 routines, asked first", x.write(), FULL);
        due.is("no fault", x.fault(), NONE);
        due.is("the tape stays", x.clear(), 1);
    }

    private void writeFaults() {
        isFault("1 empty", 1, 0);
        isFault("1 no statement", 1, 1, 1);
        isFault("1 a huge how many", 1, 3, MAX, 8, 0);
        isFault("1 in an act", 1, 3, 1, 0, 0);
        isFault("1 no body", 1, 4, 1, 1, 0, 0);
        isFault("1 no second body", 1, 5, 1, 2, 0, 0, 0);
        isFault("1 no c", 1, 2, 1, 8);
        isFault("2 kind 12", 2, 1, 1, 12);
        isFault("2 kind -1", 2, 1, 1, -1);
        isFault("3 the tree", 3, 0, -1);
        isFault("3 a body", 3, 2, 1, 3, MIN);
        isFault("3 a second body", 3, 5, 1, 2, 0, 0, 0, -1);
        isFault("4 act GO", 4, 2, 1, 0, 2, 0, 0);
        isFault("4 act TEST", 4, 2, 1, 0, 3, 0, 0);
        isFault("4 act 6", 4, 2, 1, 0, 6, 0, 0);
        isFault("4 act -1", 4, 2, 1, 0, -1);
        isFault("4 SAY b", 4, 4, 1, 0, 0, 9, 1);
        isFault("4 ADD a", 4, 3, 1, 0, 1, 4, 0);
        isFault("4 DONE a", 4, 3, 1, 0, 4, 1, 1);
        isFault("4 DONE b", 4, 4, 1, 0, 4, 0, -1);
        isFault("4 CALL a", 4, 3, 1, 0, 5, 12, 0);
        isFault("4 CALL b", 4, 4, 1, 0, 5, 11, 1);
        for (int kind : new int[] {1, 2, 4, 5, 11}) {
            isFault("4 a of a TEST in " + kind, 4, 2, 1, kind, 4, 0, 0);
            isFault("4 b of a TEST in " + kind, 4, 3, 1, kind, 3, 6, 0);
            isFault("4 b of a TEST in " + kind, 4, 3, 1, kind, 0, -1);
        }
        isFault("4 a of BREAK IF", 4, 4, 1, 3, 1, 9, 4, 0);
        isFault("4 b of AGAIN IF", 4, 5, 1, 3, 1, 10, 0, 6);
        for (int kind : new int[] {6, 7, 9, 10}) {
            isFault("5 in no loop: " + kind, 5, 1, 1, kind, 9, 9);
            isFault("5 behind a loop: " + kind, 5, 3, 2, 3, 0, kind);
            isFault("5 in an IF: " + kind, 5, 5, 1, 1, 0, 0, 1, kind);
        }
        isFault("6 JUMP", 6, 2, 1, 8, -1);
        isFault("6 JUMP IF", 6, 4, 1, 11, 0, 0, MIN);
    }

    private void lateFaults() {
        isFault("7", 7, 1, 0, 0);
        isFault("7 ahead of 9", 7, 3, 1, 8, 2, 0);
        isFault("9", 9, 3, 1, 8, 2);
        isFault("9 JUMP IF", 9, 5, 1, 11, 0, 0, MAX);
        int[] many = new int[63];
        many[0] = 1;
        many[1] = 3;
        many[2] = 60;
        for (int i = 3; i < 63; i++) {
            many[i] = 6;
        }
        isFault("8: 61 acts", 8, 63, many);
        many[2] = 59;
        isFault("7 ahead of 8", 7, 62, many);
        StoryDecompile x = new StoryDecompile();
        for (int i = 0; i < 62; i++) {
            x.feed(many[i]);
        }
        due.is("60 acts", x.write(), 0);
        due.is("60 acts", x.of(0, 0), 60);
        due.is("a BREAK of 60 acts", x.told(0, 0, 3), 60);
        int[] most = new int[300];
        most[0] = 1;
        most[1] = 3;
        most[2] = 297;
        for (int i = 3; i < 300; i++) {
            most[i] = i % 2 == 0 ? 6 : 7;
        }
        isFault("8: 298 acts", 8, 300, most);
        int[] jumps = new int[123];
        jumps[0] = 61;
        for (int i = 1; i < 123; i += 2) {
            jumps[i] = 8;
            jumps[i + 1] = 99;
        }
        isFault("8 ahead of 9", 8, 123, jumps);
    }

    /** The place that fault() tells stays until another write() has a FAULT. */
    private void faultPlace() {
        StoryDecompile x = new StoryDecompile();
        tape(x, 1, 12);
        due.is("write", x.write(), -12);
        due.is("fault", x.fault(), 1);
        tape(x, 0);
        due.is("write without a fault", x.write(), 0);
        due.is("fault of the latest with one", x.fault(), 1);
        due.is("write an empty tape", x.write(), -11);
        due.is("fault of an empty tape", x.fault(), 0);
    }

    private void clear() {
        StoryDecompile x = new StoryDecompile();
        tape(x, 5, 6, 7);
        due.is("clear", x.clear(), 3);
        due.is("clear again", x.clear(), 0);
        due.is("feed behind nothing", x.feed(0), 1);
        due.is("write what came later alone", x.write(), 0);
    }

    private void like() {
        StoryDecompile x = with(TEST, 1, 2, 1, ADD, 1, 5, 0);
        add(x, TEST, 1, 2, 1, ADD, 1, 5, 0);
        due.is("alike", x.like(0, 1), 1);
        due.is("alike the other way", x.like(1, 0), 1);
        due.is("alike itself", x.like(1, 1), 1);
        int[][] others = {{TEST, 2, 2, 1}, {TEST, 1, 3, 1}, {TEST, 1, 2, 2}, {GO, 0, 0, 1}};
        for (int[] o : others) {
            x.alter(1, 0, o[0], o[1], o[2], o[3]);
            due.is("not alike", x.like(0, 1), 0);
        }
        x.alter(1, 0, TEST, 1, 2, 1);
        due.is("alike again", x.like(0, 1), 1);
        x.act(1, DONE, 0, 0, 0);
        due.is("one longer", x.like(0, 1), 0);
        due.is("one shorter", x.like(1, 0), 0);
        due.is("no r", x.like(2, 0), BAD);
        due.is("no q", x.like(0, 2), BAD);
        due.is("r -1", x.like(-1, 0), BAD);
        due.is("q -1", x.like(0, -1), BAD);
        StoryDecompile y = with(GO, 0, 0, 60);
        add(y, GO, 0, 0, 60);
        due.is("not whole, alike", y.like(0, 1), 1);
    }

    private void set() {
        StoryDecompile x = with(ADD, 0, 1, 0);
        due.is("set", x.set(0, MAX), 0);
        due.is("run", x.run(0, 9), 0);
        due.is("running over", x.ran(4), MIN);
        due.is("set: not what the run made of it", x.set(0, BAD), MAX);
        due.is("set: what it was", x.set(0, 1), BAD);
        due.is("set 4", x.set(4, 1), BAD);
        due.is("set -1", x.set(-1, 1), BAD);
        due.is("set 3", x.set(3, 7), 0);
        due.is("set 3 again", x.set(3, 7), 7);
        due.is("the run's registers stay", x.ran(7), 0);
    }

    private void run() {
        int[] values = {-3, 0, 3};
        boolean[][] jumps = {
            {false, true, false}, {true, false, true}, {true, false, false},
            {false, true, true}, {false, false, true}, {true, true, false}};
        for (int b = 0; b < 6; b++) {
            StoryDecompile x = with(TEST, 2, b, 2, SAY, 1, 0, 0);
            for (int i = 0; i < 3; i++) {
                x.set(2, values[i]);
                due.is("run", x.run(0, 5), 0);
                due.is("TEST " + b + " of " + values[i], x.ran(1), jumps[b][i] ? 0 : 1);
                due.is("steps", x.ran(0), jumps[b][i] ? 1 : 2);
            }
        }
        StoryDecompile y = with(CALL, 1, 0, 0, SAY, 2, 0, 0);
        add(y, SAY, 1, 0, 0, DONE, 0, 0, 0, SAY, 9, 0, 0);
        due.is("run with a call", y.run(0, 4), 0);
        due.is("steps", y.ran(0), 4);
        due.is("calls", y.ran(2), 2);
        due.is("out", y.ran(1), 2);
        due.is("first out", y.out(0), 1);
        due.is("then behind the call", y.out(1), 2);
        due.is("no such routine", y.run(2, 4), BAD);
        due.is("routine -1", y.run(-1, 4), BAD);
        due.is("steps -1", y.run(0, -1), BAD);
        due.is("steps 10001", y.run(0, 10001), BAD);
        y.act(0, GO, 0, 0, 60);
        due.is("not whole", y.run(0, 4), NO);
        due.is("not whole, BAD first", y.run(0, 10001), BAD);
        due.is("refusals leave the latest run", y.ran(0), 4);
    }

    private void runEnds() {
        due.is("nothing to do, no steps", with().run(0, 0), 0);
        StoryDecompile x = with(SAY, 1, 0, 0);
        due.is("no step", x.run(0, 0), 1);
        due.is("no step", x.ran(0), 0);
        due.is("just enough", x.run(0, 1), 0);
        StoryDecompile forever = with(GO, 0, 0, 0);
        due.is("forever", forever.run(0, 10000), 1);
        due.is("forever", forever.ran(0), 10000);
        StoryDecompile calls = with(CALL, 1, 0, 0);
        due.is("call of none", calls.run(0, 9), 2);
        due.is("it was no call", calls.ran(2), 1);
        due.is("it was a step", calls.ran(0), 1);
        due.is("no step for it", calls.run(0, 0), 1);
        add(calls, SAY, 1, 0, 0, GO, 0, 0, 3);
        due.is("call of what is not whole", calls.run(0, 9), 2);
        calls.alter(1, 1, CALL, 1, 0, 0);
        due.is("too many calls in one another", calls.run(0, 100), 3);
        due.is("eight of them", calls.ran(2), 8);
        due.is("seven said something", calls.ran(1), 7);
        due.is("steps, with the refused one", calls.ran(0), 15);
        chain(7, 0);
        chain(8, 3);
        StoryDecompile both = with(CALL, 0, 0, 0);
        due.is("more than eight", both.run(0, 100), 3);
        due.is("eight steps", both.ran(0), 8);
        StoryDecompile loud = with(SAY, 1, 0, 0, ADD, 0, -1, 0, TEST, 0, 1, 0);
        loud.set(0, 200);
        due.is("200 come out", loud.run(0, 9999), 0);
        due.is("200 come out", loud.ran(1), 200);
        loud.set(0, 201);
        due.is("out is full", loud.run(0, 9999), 4);
        due.is("out is full", loud.ran(1), 200);
        due.is("out is full: steps", loud.ran(0), 601);
        due.is("the last one", loud.out(199), 1);
        due.is("behind the last one", loud.out(200), BAD);
    }

    /** ROUTINES that call the next one, the last being without ACTS. */
    private void chain(int links, int end) {
        StoryDecompile x = new StoryDecompile();
        for (int r = 0; r < links; r++) {
            add(x, CALL, r + 1, 0, 0);
        }
        x.routine();
        due.is("chain of " + links, x.run(0, 100), end);
    }

    private void ran() {
        StoryDecompile x = with(ADD, 0, 5, 0, ADD, 3, -6, 0);
        x.set(1, 8);
        for (int what : new int[] {0, 1, 2, 4, 5, 6, 7}) {
            due.is("before any", x.ran(what), 0);
        }
        due.is("run", x.run(0, 10), 0);
        int[] is = {2, 0, 1, BAD, 5, 8, 0, -6, BAD};
        for (int what = 0; what < is.length; what++) {
            due.is("ran " + what, x.ran(what), is[what]);
        }
        due.is("ran -1", x.ran(-1), BAD);
        due.is("shorter run", x.run(0, 1), 1);
        due.is("registers then", x.ran(7), 0);
        due.is("ran 3 before any", with().ran(3), BAD);
    }

    private void out() {
        StoryDecompile x = with(SAY, BAD, 0, 0, SAY, MAX, 0, 0);
        due.is("before any", x.out(0), BAD);
        x.run(0, 10);
        due.is("out 0", x.out(0), BAD);
        due.is("out 1", x.out(1), MAX);
        due.is("out 2", x.out(2), BAD);
        due.is("out -1", x.out(-1), BAD);
        x.run(0, 1);
        due.is("out of the latest run", x.out(1), BAD);
    }

    /** 61 BODIES in one another are the most that 60 ACTS can have, and THE TAPE may. */
    private void deepest() {
        StoryDecompile x = new StoryDecompile();
        x.routine();
        for (int i = 0; i < 60; i++) {
            x.act(0, TEST, 0, 0, 60);
        }
        due.is("deepest", x.of(0, 6), 61);
        due.is("its text", x.text(0, NONE), 241);
        due.is("the innermost lies in", x.statement(0, 59, 3), 58);
        due.is("the outermost has", x.statement(0, 0, 5), 59);
        due.is("copied", x.copy(0), 241);
        due.is("written", x.write(), 1);
        due.is("alike", x.like(0, 1), 1);
        nested(60, 0, NONE, 0);
        nested(61, -12, 122, 0);
        nested(61, -12, 122, 5);
        nested(61, -12, 122, -1);
        nested(61, -11, 122);
    }

    /** LOOPS in one another, and then how many STATEMENTS the innermost has, if that is told. */
    private void nested(int loops, int answer, int place, int... last) {
        StoryDecompile x = new StoryDecompile();
        for (int i = 0; i < loops; i++) {
            tape(x, 1, 3);
        }
        tape(x, last);
        due.is("loops in one another: " + loops, x.write(), answer);
        due.is("loops in one another: place", x.fault(), place);
    }
}
