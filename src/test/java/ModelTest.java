import java.util.Random;

/** Random runs of calls, always the same ones, answered by StoryDecompile and by the Model. */
public final class ModelTest {
    private static final Due due = new Due("ModelTest");
    private static final int[] ODD = {Integer.MIN_VALUE, -5, -2, -1, 60, 61, 300, 10001, Integer.MAX_VALUE};

    private final Random random;
    private final StoryDecompile real = new StoryDecompile();
    private final Model model = new Model();
    private int routines = 0;
    private final int[] lengths = new int[12];
    private boolean odd = false;
    /** How many calls the real object has had; it is made for CALLS of them. */
    private int calls = 0;
    private static final int CALLS = 512;

    private ModelTest(long seed) {
        random = new Random(seed);
    }

    public static void main(String[] args) {
        for (int seed = 0; seed < 4000 && !due.anyWrong(); seed++) {
            ModelTest test = new ModelTest(seed);
            test.odd = seed % 3 == 0;
            test.mixedCalls();
        }
        for (int seed = 0; seed < 12000 && !due.anyWrong(); seed++) {
            new ModelTest(seed).oneRoutine();
        }
        for (int seed = 0; seed < 12000 && !due.anyWrong(); seed++) {
            new ModelTest(seed).spoiltText();
        }
        for (int seed = 0; seed < 12000 && !due.anyWrong(); seed++) {
            new ModelTest(seed).grownText();
        }
        due.end();
    }

    /** Whether one call more is within what the document promises. */
    private boolean may() {
        calls++;
        return calls <= CALLS;
    }

    private int below(int n) {
        if (odd && random.nextInt(25) == 0) {
            return ODD[random.nextInt(ODD.length)];
        }
        return n <= 0 ? 0 : random.nextInt(n);
    }

    private void act(int r, int near) {
        int kind = random.nextInt(10) < 5 ? 2 + random.nextInt(2) : below(6);
        int a = kind == 5 ? below(12) : below(4);
        int b = kind == 1 ? below(9) - 4 : below(6);
        int c = below(Math.min(61, near));
        calls++;
        int i = real.act(r, kind, a, b, c);
        due.is("act", i, model.act(r, kind, a, b, c));
        if (r >= 0 && r < routines && i >= 0) {
            lengths[r] = i + 1;
        }
    }

    private void routine() {
        calls++;
        int r = real.routine();
        due.is("routine", r, model.routine());
        routines = Math.max(routines, r + 1);
    }

    private void write() {
        calls += 3;
        int r = real.write();
        due.is("write", r, model.write());
        due.is("fault", real.fault(), model.fault());
        if (r >= 0) {
            routines = r + 1;
            lengths[r] = real.of(r, 0);
        }
    }

    /** Some more than THE TAPE takes, and room for other calls. */
    private void feed(int v) {
        if (calls >= 320) {
            return;
        }
        calls++;
        due.is("feed", real.feed(v), model.feed(v));
    }

    private void mixedCalls() {
        routine();
        int near = 2 + random.nextInt(25);
        while (calls < CALLS - 3) {
            int r = below(routines);
            int n = r >= 0 && r < routines ? lengths[r] : 3;
            int pick = random.nextInt(40);
            if (pick < 12) {
                act(r, near);
            } else {
                calls++;
                ask(pick, r, n);
            }
        }
    }

    private void ask(int pick, int r, int n) {
        int i = below(n + 1);
        int what = below(9);
        int v = below(12);
        switch (pick) {
            case 12:
            case 13: {
                int kind = below(6);
                int b = below(6);
                int c = below(Math.min(61, n + 2));
                int a = below(4);
                due.is("alter", real.alter(r, i, kind, a, b, c), model.alter(r, i, kind, a, b, c));
                break;
            }
            case 14: case 15: case 16:
                due.is("told", real.told(r, i, what), model.told(r, i, what));
                break;
            case 17: case 18: case 19:
                due.is("of", real.of(r, what), model.of(r, what));
                break;
            case 20: case 21: case 22: case 23:
                due.is("statement", real.statement(r, i, what), model.statement(r, i, what));
                break;
            case 24: case 25:
                due.is("text", real.text(r, i * 2 - 1), model.text(r, i * 2 - 1));
                break;
            case 26:
                feed(v);
                break;
            case 27: case 28:
                due.is("copy", real.copy(r), model.copy(r));
                break;
            case 29:
                write();
                break;
            case 30:
                due.is("clear", real.clear(), model.clear());
                break;
            case 31:
                due.is("like", real.like(r, v), model.like(r, v));
                break;
            case 32:
                due.is("set", real.set(v / 2, what - 3), model.set(v / 2, what - 3));
                break;
            case 33: case 34: {
                int steps = random.nextInt(4) == 0 ? below(20) : below(3000);
                due.is("run", real.run(r, steps), model.run(r, steps));
                break;
            }
            case 35: case 36:
                due.is("ran", real.ran(what), model.ran(what));
                break;
            case 37:
                due.is("out", real.out(v * 5), model.out(v * 5));
                break;
            default:
                routine();
                break;
        }
    }

    private void oneRoutine() {
        routine();
        int n = random.nextInt(random.nextInt(5) == 0 ? 61 : 16);
        for (int i = 0; i < n; i++) {
            act(0, n + 1);
        }
        compareTrees(0);
        due.is("copy", real.copy(0), model.copy(0));
        int r = real.write();
        due.is("write", r, model.write());
        due.is("the same act by act", real.like(0, r), 1);
        due.is("run", real.run(0, 300), model.run(0, 300));
        for (int what = 0; what < 9; what++) {
            due.is("ran", real.ran(what), model.ran(what));
        }
        due.is("run as written", real.run(r, 300), model.run(0, 300));
        due.is("steps as written", real.ran(0), model.ran(0));
    }

    /** Of a long ROUTINE every fifth answer, so that the calls are enough. */
    private void compareTrees(int r) {
        for (int what = -1; what < 9 && may(); what++) {
            due.is("of " + what, real.of(r, what), model.of(r, what));
        }
        int words = model.text(r, -1);
        int n = model.of(r, 0);
        int stride = n > 15 ? 5 : 1;
        for (int i = -1 + random.nextInt(stride); i <= words && may(); i += stride) {
            due.is("text " + i, real.text(r, i), model.text(r, i));
        }
        for (int q = random.nextInt(stride); q < 12 * (n + 1) && may(); q += stride) {
            int i = q / 12;
            int what = q % 6;
            if (q % 12 < 6) {
                due.is("told", real.told(r, i, what), model.told(r, i, what));
            } else {
                due.is("statement", real.statement(r, i, what), model.statement(r, i, what));
            }
        }
    }

    /** The TEXT of a ROUTINE with a number or two that are others, missing or more. */
    private void spoiltText() {
        routine();
        int n = random.nextInt(20);
        for (int i = 0; i < n; i++) {
            act(0, n + 1);
        }
        int words = model.text(0, -1);
        int spoilt = random.nextInt(Math.max(1, words) + 1);
        int how = random.nextInt(3);
        for (int i = 0; i < words; i++) {
            if (i != spoilt || how == 0) {
                feed(model.text(0, i));
            }
            if (i == spoilt && how != 1) {
                feed(random.nextInt(15) - 2);
            }
        }
        write();
        if (routines == 2) {
            compareTrees(1);
        }
    }

    /** A TEXT that was not READ from ACTS: bodies without statements, too many ACTS, c too high. */
    private void grownText() {
        grow(1, random.nextInt(4) == 0);
        write();
        if (routines == 1) {
            compareTrees(0);
        }
    }

    private void grow(int depth, boolean inLoop) {
        int many = random.nextInt(depth > 5 ? 2 : 6);
        feed(many);
        for (int s = 0; s < many; s++) {
            int kind = random.nextInt(12);
            boolean ofLoop = kind == 6 || kind == 7 || kind == 9 || kind == 10;
            if (ofLoop && !inLoop && random.nextInt(20) != 0) {
                kind = 3;
            }
            feed(kind);
            if (kind == 0) {
                int act = new int[] {0, 1, 4, 5}[random.nextInt(4)];
                feed(act);
                feed(act == 4 ? 0 : random.nextInt(4));
                feed(act == 1 ? random.nextInt(9) - 4 : 0);
            } else if (kind != 3 && (kind < 6 || kind > 8)) {
                feed(random.nextInt(4));
                feed(random.nextInt(6));
            }
            if (kind == 8 || kind == 11) {
                feed(random.nextInt(8));
            }
            int bodies = kind == 2 ? 2 : kind >= 1 && kind <= 5 ? 1 : 0;
            for (int i = 0; i < bodies; i++) {
                grow(depth + 1, inLoop || kind >= 3);
            }
        }
    }
}
