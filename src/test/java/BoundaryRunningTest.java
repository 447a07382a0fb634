/** Terms, RUNNING: a test for each sentence that names a boundary case. says() tells which one it is. */
public final class BoundaryRunningTest extends Rows {
    private static final String RUNNING = "Terms, RUNNING";

    private BoundaryRunningTest() {
        super("BoundaryRunningTest");
    }

    public static void main(String[] args) {
        new BoundaryRunningTest().all();
    }

    private void all() {
        registersAsSet();
        outIsEmptyAtFirst();
        outHas200();
        eachActIsAStep();
        theActAtWhichItEndsIsAStep();
        end0OverAtOnce();
        end0WithTheLastStep();
        end0OfCallsWithTheLastStep();
        end0OfCallsAlone();
        end1NoStepLeft();
        end1AheadOfOthers();
        end2NoSuchRoutine();
        end2NotWhole();
        end2WhenItIsCalledAlone();
        end3EightInOneAnother();
        end3TheFirstOneToo();
        end3OneBehindAnother();
        end4OutIsFull();
        end4InACall();
        due.end();
    }

    private void registersAsSet() {
        due.says(RUNNING, "REGISTERS as told by set()");
        StoryDecompile x = with(ADD, 0, 1, 0, ADD, 3, -1, 0);
        x.run(0, 9);
        due.is("0 at first", x.ran(4), 1);
        x.run(0, 9);
        due.is("not what the latest run left", x.ran(4), 1);
        x.set(0, MAX);
        x.set(3, MIN);
        x.run(0, 9);
        due.is("REGISTER 0, running over", x.ran(4), MIN);
        due.is("REGISTER 3, running over", x.ran(7), MAX);
        due.is("a run sets none", x.set(0, 0), MAX);
        due.is("a run sets none", x.set(3, 0), MIN);
        add(x, CALL, 0, 0, 0, CALL, 0, 0, 0);
        x.run(1, 9);
        due.is("a CALL has those of its caller", x.ran(4), 2);
    }

    private void outIsEmptyAtFirst() {
        due.says(RUNNING, "OUT (200) empty at first");
        StoryDecompile x = with(SAY, 1, 0, 0, SAY, 2, 0, 0);
        x.run(0, 9);
        due.is("how many", x.ran(1), 2);
        x.run(0, 1);
        due.is("how many then", x.ran(1), 1);
        due.is("the first", x.out(0), 1);
        due.is("no second one", x.out(1), BAD);
        x.run(0, 0);
        due.is("none", x.ran(1), 0);
        due.is("no first one", x.out(0), BAD);
        x.routine();
        x.run(0, 9);
        x.run(1, 9);
        due.is("none of no ACTS", x.ran(1), 0);
    }

    /** SAYS how often REGISTER 0 tells; each time is three STEPS. */
    private static StoryDecompile loud(int times) {
        StoryDecompile x = with(SAY, 5, 0, 0, ADD, 0, -1, 0, TEST, 0, 1, 0);
        x.set(0, times);
        return x;
    }

    private void outHas200() {
        due.says(RUNNING, "OUT (200)");
        StoryDecompile x = loud(200);
        due.is("200 and over", x.run(0, 10000), 0);
        due.is("how many", x.ran(1), 200);
        due.is("the last one", x.out(199), 5);
        due.is("none behind", x.out(200), BAD);
        due.is("STEPS", x.ran(0), 600);
    }

    private void eachActIsAStep() {
        due.says(RUNNING, "each ACT is a STEP");
        StoryDecompile x = with(SAY, 1, 0, 0, ADD, 0, 1, 0, TEST, 0, 0, 0, TEST, 0, 1, 4, GO, 0, 0, 5,
            CALL, 1, 0, 0, DONE, 0, 0, 0);
        x.routine();
        for (int steps = 0; steps < 7; steps++) {
            due.is("with " + steps, x.run(0, steps), 1);
            due.is("STEPS of " + steps, x.ran(0), steps);
        }
        due.is("with 7", x.run(0, 7), 0);
        due.is("STEPS of 7", x.ran(0), 7);
        due.is("with 8", x.run(0, 8), 0);
        due.is("STEPS of 8", x.ran(0), 7);
    }

    private void theActAtWhichItEndsIsAStep() {
        due.says(RUNNING, "each ACT is a STEP");
        StoryDecompile none = with(SAY, 1, 0, 0, CALL, 1, 0, 0);
        due.is("a CALL of none", none.run(0, 9), 2);
        due.is("STEPS", none.ran(0), 2);
        StoryDecompile deep = with(CALL, 0, 0, 0);
        due.is("a ninth CALL", deep.run(0, 9), 3);
        due.is("STEPS", deep.ran(0), 8);
        StoryDecompile full = loud(201);
        due.is("the SAY that finds OUT full", full.run(0, 9999), 4);
        due.is("STEPS", full.ran(0), 601);
    }

    private void end0OverAtOnce() {
        due.says(RUNNING, "0 all is over");
        StoryDecompile x = with();
        due.is("no ACTS, no STEPS", x.run(0, 0), 0);
        due.is("STEPS", x.ran(0), 0);
        due.is("CALLS", x.ran(2), 1);
        due.is("no ACTS, many STEPS", x.run(0, 10000), 0);
        due.is("STEPS", x.ran(0), 0);
    }

    private void end0WithTheLastStep() {
        due.says(RUNNING, "0 all is over; 1 no STEP is left");
        int[][] lasts = {{SAY, 1, 0, 0}, {ADD, 0, 1, 0}, {GO, 0, 0, 1}, {TEST, 0, 0, 1}, {DONE, 0, 0, 0}};
        for (int[] last : lasts) {
            StoryDecompile x = with(last);
            due.is("kind " + last[0] + ", no STEP", x.run(0, 0), 1);
            due.is("kind " + last[0] + ", the last STEP", x.run(0, 1), 0);
            due.is("kind " + last[0] + ", STEPS", x.ran(0), 1);
        }
        due.is("not over in 10000", with(ADD, 0, 1, 0, TEST, 0, 1, 0).run(0, 10000), 1);
        StoryDecompile most = with(ADD, 0, -1, 0, TEST, 0, 1, 0);
        most.set(0, 5000);
        due.is("the 10000th is the last", most.run(0, 10000), 0);
        due.is("STEPS", most.ran(0), 10000);
        due.is("one less", most.run(0, 9999), 1);
    }

    private void end0OfCallsWithTheLastStep() {
        due.says(RUNNING, "0 all is over; 1 no STEP is left");
        StoryDecompile x = with(CALL, 1, 0, 0);
        add(x, CALL, 2, 0, 0);
        add(x, SAY, 1, 0, 0);
        due.is("all three are over", x.run(0, 3), 0);
        due.is("one is not", x.run(0, 2), 1);
        due.is("CALLS", x.ran(2), 3);
        due.is("how many OUT", x.ran(1), 0);
        x.act(0, DONE, 0, 0, 0);
        due.is("the caller is not", x.run(0, 3), 1);
        due.is("how many OUT", x.ran(1), 1);
    }

    /** ROUTINE 0 does nothing but CALLS, 10000 of them, the last one with the last STEP. */
    private static StoryDecompile callsAlone() {
        StoryDecompile x = new StoryDecompile();
        // 2 * (1 + 60 * 61) + 43 * 61 + 41 + 14 STEPS in 60 ACTS.
        add(x, joined(times(2, CALL, 1, 0, 0), times(43, CALL, 2, 0, 0), row(CALL, 3, 0, 0), times(14, CALL, 4, 0, 0)));
        add(x, times(60, CALL, 2, 0, 0));
        add(x, times(60, CALL, 4, 0, 0));
        add(x, times(40, CALL, 4, 0, 0));
        x.routine();
        return x;
    }

    private void end0OfCallsAlone() {
        due.says(RUNNING, "0 all is over; 1 no STEP is left");
        StoryDecompile x = callsAlone();
        due.is("the 10000th CALL is the last", x.run(0, 10000), 0);
        due.is("STEPS", x.ran(0), 10000);
        due.is("CALLS", x.ran(2), 10001);
        due.is("one less", x.run(0, 9999), 1);
        due.is("STEPS", x.ran(0), 9999);
        due.is("CALLS", x.ran(2), 10000);
        x.alter(0, 59, CALL, 3, 0, 0);
        due.is("40 more", x.run(0, 10000), 1);
        due.is("STEPS", x.ran(0), 10000);
    }

    private void end1NoStepLeft() {
        due.says(RUNNING, "1 no STEP is left");
        StoryDecompile x = with(GO, 0, 0, 0);
        for (int steps : row(0, 1, 2, 9999, 10000)) {
            due.is("of " + steps, x.run(0, steps), 1);
            due.is("STEPS of " + steps, x.ran(0), steps);
        }
        StoryDecompile calls = with(CALL, 1, 0, 0, GO, 0, 0, 0);
        calls.routine();
        due.is("of 10000 with CALLS", calls.run(0, 10000), 1);
        due.is("STEPS", calls.ran(0), 10000);
        due.is("CALLS", calls.ran(2), 5001);
    }

    private void end1AheadOfOthers() {
        due.says(RUNNING, "1 no STEP is left; 2 a CALL");
        due.is("ahead of a CALL of none", with(CALL, 1, 0, 0).run(0, 0), 1);
        due.is("ahead of a ninth CALL", with(CALL, 0, 0, 0).run(0, 7), 1);
        StoryDecompile x = loud(201);
        due.is("ahead of the SAY that finds OUT full", x.run(0, 600), 1);
        due.is("how many OUT", x.ran(1), 200);
    }

    private void end2NoSuchRoutine() {
        due.says(RUNNING, "2 a CALL of a ROUTINE that there is not");
        StoryDecompile x = with(SAY, 1, 0, 0, CALL, 1, 0, 0, SAY, 2, 0, 0);
        due.is("ROUTINE 1", x.run(0, 9), 2);
        due.is("CALLS", x.ran(2), 1);
        due.is("how many OUT", x.ran(1), 1);
        x.alter(0, 1, CALL, 11, 0, 0);
        due.is("ROUTINE 11", x.run(0, 9), 2);
        x.alter(0, 1, CALL, 1, 0, 0);
        x.routine();
        due.is("it is there now", x.run(0, 9), 0);
        due.is("CALLS", x.ran(2), 2);
    }

    private void end2NotWhole() {
        due.says(RUNNING, "2 a CALL of a ROUTINE that there is not, or that is not WHOLE");
        StoryDecompile x = with(CALL, 1, 0, 0);
        add(x, DONE, 0, 0, 0, GO, 0, 0, 3);
        due.is("not WHOLE by what is never come to", x.run(0, 9), 2);
        due.is("CALLS", x.ran(2), 1);
        x.act(1, SAY, 1, 0, 0);
        due.is("WHOLE by an ACT more", x.run(0, 9), 0);
        x.alter(1, 1, TEST, 0, 0, 4);
        due.is("not WHOLE by another ACT", x.run(0, 9), 2);
    }

    private void end2WhenItIsCalledAlone() {
        due.says(RUNNING, "2 a CALL of a ROUTINE that there is not");
        due.is("never come to", with(DONE, 0, 0, 0, CALL, 1, 0, 0).run(0, 9), 0);
        StoryDecompile x = with(CALL, 1, 0, 0);
        add(x, CALL, 2, 0, 0);
        due.is("in a CALL", x.run(0, 9), 2);
        due.is("CALLS", x.ran(2), 2);
        StoryDecompile both = new StoryDecompile();
        for (int r = 0; r < 8; r++) {
            add(both, CALL, r + 1, 0, 0);
        }
        due.is("2 ahead of 3", both.run(0, 99), 2);
        due.is("CALLS", both.ran(2), 8);
    }

    /** How ROUTINE 0 ends if it calls 1, which calls 2, as many as that; the last has no ACTS. */
    private static int chain(int many) {
        StoryDecompile x = new StoryDecompile();
        for (int r = 1; r < many; r++) {
            add(x, CALL, r, 0, 0);
        }
        x.routine();
        return x.run(0, 99);
    }

    private void end3EightInOneAnother() {
        due.says(RUNNING, "3 more than 8 CALLS in one another");
        due.is("one", chain(1), 0);
        due.is("seven", chain(7), 0);
        due.is("eight", chain(8), 0);
        due.is("nine", chain(9), 3);
        due.is("twelve", chain(12), 3);
    }

    private void end3TheFirstOneToo() {
        due.says(RUNNING, "3 more than 8 CALLS in one another (the first one, too)");
        StoryDecompile x = with(SAY, 1, 0, 0, CALL, 0, 0, 0);
        due.is("itself", x.run(0, 99), 3);
        due.is("CALLS", x.ran(2), 8);
        due.is("how many OUT", x.ran(1), 8);
    }

    private void end3OneBehindAnother() {
        due.says(RUNNING, "3 more than 8 CALLS in one another");
        StoryDecompile x = with(times(60, CALL, 1, 0, 0));
        x.routine();
        due.is("60, one behind another", x.run(0, 99), 0);
        due.is("CALLS", x.ran(2), 61);
        StoryDecompile deep = new StoryDecompile();
        for (int r = 1; r < 8; r++) {
            add(deep, CALL, r, 0, 0, CALL, r, 0, 0);
        }
        add(deep, SAY, 1, 0, 0);
        due.is("eight in one another, again and again", deep.run(0, 10000), 0);
        due.is("CALLS", deep.ran(2), 255);
        due.is("how many OUT", deep.ran(1), 128);
    }

    private void end4OutIsFull() {
        due.says(RUNNING, "4 OUT is full");
        StoryDecompile x = loud(201);
        due.is("the 201st", x.run(0, 10000), 4);
        due.is("how many OUT", x.ran(1), 200);
        due.is("REGISTER 0 then", x.ran(4), 1);
        due.is("the last one", x.out(199), 5);
        due.is("none behind", x.out(200), BAD);
        x.set(0, 3);
        due.is("OUT is empty again", x.run(0, 10000), 0);
        due.is("how many OUT", x.ran(1), 3);
    }

    private void end4InACall() {
        due.says(RUNNING, "4 OUT is full");
        StoryDecompile x = with(CALL, 1, 0, 0, CALL, 1, 0, 0, CALL, 1, 0, 0, CALL, 1, 0, 0);
        add(x, times(50, SAY, 3, 0, 0));
        due.is("four times 50", x.run(0, 10000), 0);
        x.act(0, SAY, 4, 0, 0);
        due.is("and one more", x.run(0, 10000), 4);
        due.is("how many OUT", x.ran(1), 200);
        due.is("the last one", x.out(199), 3);
        x.alter(0, 4, ADD, 1, 6, 0);
        due.is("another ACT goes on", x.run(0, 10000), 0);
        due.is("REGISTER 1 then", x.ran(5), 6);
    }
}
