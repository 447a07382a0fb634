/**
 * "Rows of acts with jumps read back as statements that lie in one another, and written as rows of
 * acts again, the same act by act": every WHOLE row of up to five ACTS, as far as jumps go.
 */
public final class EveryRowTest {
    private static final Due due = new Due("EveryRowTest");
    private static final int SAY = 0, GO = 2, TEST = 3, DONE = 4;
    private static final int LONGEST = 5;
    /** The Model is slow, so longer rows are only written again. */
    private static final int LONGEST_COMPARED = 4;

    public static void main(String[] args) {
        for (int n = 0; n <= LONGEST && !due.anyWrong(); n++) {
            int choices = 2 + 2 * (n + 1);
            int rows = (int) Math.pow(choices, n);
            for (int row = 0; row < rows && !due.anyWrong(); row++) {
                tryRow(n, choices, row);
            }
        }
        due.end();
    }

    /** The row is a number whose digits are the ACTS. */
    private static void tryRow(int n, int choices, int row) {
        StoryDecompile real = new StoryDecompile();
        Model model = new Model();
        real.routine();
        model.routine();
        int rest = row;
        for (int i = 0; i < n; i++) {
            int digit = rest % choices;
            rest /= choices;
            int kind = digit == 0 ? SAY : digit == 1 ? DONE : digit % 2 == 0 ? GO : TEST;
            int c = digit / 2 - 1;
            real.act(0, kind, 0, 0, Math.max(c, 0));
            model.act(0, kind, 0, 0, Math.max(c, 0));
        }
        if (n <= LONGEST_COMPARED) {
            compare(n + " acts, row " + row, real, model, n);
        }
        real.copy(0);
        due.is(n + " acts, row " + row + " is written", real.write(), 1);
        due.is(n + " acts, row " + row + " is the same act by act", real.like(0, 1), 1);
    }

    private static void compare(String name, StoryDecompile real, Model model, int n) {
        for (int what = 0; what < 8; what++) {
            due.is(name + ": of " + what, real.of(0, what), model.of(0, what));
        }
        int words = model.text(0, -1);
        for (int i = -1; i <= words; i++) {
            due.is(name + ": text " + i, real.text(0, i), model.text(0, i));
        }
        for (int i = 0; i <= n; i++) {
            for (int what = 0; what < 6; what++) {
                due.is(name + ": told " + i + " " + what, real.told(0, i, what), model.told(0, i, what));
                due.is(name + ": statement " + i + " " + what, real.statement(0, i, what),
                    model.statement(0, i, what));
            }
        }
    }
}
