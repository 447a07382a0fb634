/** What the tests by hand share: the document's numbers by name, rows of ACTS, THE TAPE. */
abstract class Rows {
    static final int NONE = -1, BAD = -2, NO = -3, FULL = -4;
    /** Kinds of ACTS. */
    static final int SAY = 0, ADD = 1, GO = 2, TEST = 3, DONE = 4, CALL = 5;
    /** Kinds of STATEMENTS. */
    static final int PLAIN = 0, IF = 1, IF_ELSE = 2, LOOP = 3, WHILE = 4, DO = 5;
    static final int BREAK = 6, AGAIN = 7, JUMP = 8, BREAK_IF = 9, AGAIN_IF = 10, JUMP_IF = 11;
    static final int MIN = Integer.MIN_VALUE, MAX = Integer.MAX_VALUE;

    final Due due;

    Rows(String test) {
        due = new Due(test);
    }

    /** A new object with one ROUTINE of these ACTS, four numbers each. */
    static StoryDecompile with(int... acts) {
        StoryDecompile x = new StoryDecompile();
        add(x, acts);
        return x;
    }

    /** A ROUTINE more: its number. */
    static int add(StoryDecompile x, int... acts) {
        int r = x.routine();
        for (int i = 0; i < acts.length; i += 4) {
            x.act(r, acts[i], acts[i + 1], acts[i + 2], acts[i + 3]);
        }
        return r;
    }

    /** The same ACT again and again. */
    static int[] times(int many, int... act) {
        int[] row = new int[many * act.length];
        for (int i = 0; i < row.length; i++) {
            row[i] = act[i % act.length];
        }
        return row;
    }

    static int[] joined(int[]... rows) {
        int length = 0;
        for (int[] row : rows) {
            length += row.length;
        }
        int[] all = new int[length];
        int at = 0;
        for (int[] row : rows) {
            System.arraycopy(row, 0, all, at, row.length);
            at += row.length;
        }
        return all;
    }

    static int[] row(int... numbers) {
        return numbers;
    }

    static void tape(StoryDecompile x, int... words) {
        for (int v : words) {
            x.feed(v);
        }
    }

    void isAct(String what, StoryDecompile x, int i, int... act) {
        for (int k = 0; k < 4; k++) {
            due.is(what + ": act " + i + " what " + k, x.told(0, i, k), act[k]);
        }
    }

    /** The TEXT of a ROUTINE is just this, and is written as the same ACTS again. */
    void isText(String what, StoryDecompile x, int r, int... words) {
        due.is(what + ": numbers", x.text(r, NONE), words.length);
        for (int i = 0; i < words.length; i++) {
            due.is(what + ": number " + i, x.text(r, i), words[i]);
        }
        due.is(what + ": behind", x.text(r, words.length), BAD);
        x.clear();
        x.copy(r);
        int w = x.write();
        due.is(what + ": written again", x.like(r, w), 1);
    }

    /** THE TAPE has this FAULT, at this place. */
    void isFault(String what, int fault, int place, int... words) {
        StoryDecompile x = new StoryDecompile();
        tape(x, words);
        due.is(what, x.write(), -10 - fault);
        due.is(what + ": place", x.fault(), place);
        due.is(what + ": the tape is empty", x.clear(), 0);
        due.is(what + ": no routine more", x.routine(), 0);
    }

    /** THE TAPE becomes just these ACTS. */
    void isWritten(String what, int[] words, int... acts) {
        StoryDecompile x = new StoryDecompile();
        tape(x, words);
        due.is(what, x.write(), 0);
        due.is(what + ": no fault", x.fault(), NONE);
        due.is(what + ": acts", x.of(0, 0), acts.length / 4);
        for (int i = 0; i < acts.length; i++) {
            due.is(what + ": act " + i / 4 + " what " + i % 4, x.told(0, i / 4, i % 4), acts[i]);
        }
    }
}
