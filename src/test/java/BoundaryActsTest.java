/**
 * Terms, ROUTINES and ACTS, COME TO, REFUSALS: a test for each sentence that names a boundary case.
 * says() tells which sentence it is.
 */
public final class BoundaryActsTest extends Rows {
    private static final String ACTS = "Terms, ROUTINES and ACTS";
    private static final String COME_TO = "Terms, COME TO";
    private static final String REFUSALS = "Terms, REFUSALS";

    private BoundaryActsTest() {
        super("BoundaryActsTest");
    }

    public static void main(String[] args) {
        new BoundaryActsTest().all();
    }

    private void all() {
        constants();
        last512thCall();
        twelveRoutines();
        sixtyActs();
        actsFrom0();
        placesUpToN();
        overAtPlaceN();
        fourRegisters();
        registersRunOver();
        sayAnyNumber();
        addsRegister();
        addsAnyNumber();
        goesToPlace();
        testsRegister();
        testsComparison();
        testEqual();
        testNotEqual();
        testBelow();
        testNotBelow();
        testAbove();
        testNotAbove();
        doneEndsItsRoutineAlone();
        callsUpTo11();
        callGoesOnBehind();
        noUseIs0();
        act0IsComeTo();
        onlyWhatIsComeToLeads();
        eachRoutineItsOwn();
        goLeadsToItsPlaceAlone();
        testLeadsBothWays();
        doneLeadsNowhere();
        othersLeadToTheNext();
        refusalsChangeNothing();
        refusalsKeepTheTape();
        badIsNoSuchOne();
        badAheadOfNo();
        badAheadOfFull();
        noAheadOfFull();
        due.end();
    }

    private void constants() {
        due.says("The public face", "public static final int NONE = -1, BAD = -2, NO = -3, FULL = -4;");
        due.is("NONE", StoryDecompile.NONE, -1);
        due.is("BAD", StoryDecompile.BAD, -2);
        due.is("NO", StoryDecompile.NO, -3);
        due.is("FULL", StoryDecompile.FULL, -4);
    }

    private void last512thCall() {
        due.says("What it is", "An object is used for at most 512 calls after it has been made");
        StoryDecompile x = new StoryDecompile();
        for (int call = 1; call <= 300; call++) {
            due.is("call " + call, x.feed(call), call);
        }
        due.is("call 301", x.clear(), 300);
        for (int call = 302; call <= 511; call++) {
            due.is("call " + call, x.feed(call), call - 301);
        }
        due.is("call 512", x.clear(), 210);
    }

    private void twelveRoutines() {
        due.says(ACTS, "ROUTINES, 12 at most");
        StoryDecompile x = new StoryDecompile();
        for (int r = 0; r < 11; r++) {
            due.is("routine " + r, x.routine(), r);
        }
        x.feed(0);
        due.is("the twelfth is written", x.write(), 11);
        due.is("the twelfth is there", x.of(11, 0), 0);
        due.is("no thirteenth", x.routine(), FULL);
        x.feed(0);
        due.is("no thirteenth is written", x.write(), FULL);
        due.is("it is not there", x.of(12, 0), BAD);
    }

    private void sixtyActs() {
        due.says(ACTS, "rows of up to 60 ACTS");
        StoryDecompile x = with(times(59, SAY, 7, 0, 0));
        due.is("the sixtieth", x.act(0, SAY, 8, 0, 0), 59);
        due.is("no other", x.act(0, SAY, 9, 0, 0), FULL);
        due.is("sixty", x.of(0, 0), 60);
        due.is("the sixtieth stays", x.told(0, 59, 1), 8);
        due.is("there is no ACT 60", x.told(0, 60, 1), BAD);
        due.is("another routine has room", x.act(x.routine(), SAY, 9, 0, 0), 0);
    }

    private void actsFrom0() {
        due.says(ACTS, "ACTS, numbered from 0");
        StoryDecompile x = with();
        due.is("the first", x.act(0, SAY, 5, 0, 0), 0);
        due.is("the second", x.act(0, SAY, 6, 0, 0), 1);
        due.is("ACT 0", x.told(0, 0, 1), 5);
        due.is("ACT 1", x.told(0, 1, 1), 6);
        due.is("no ACT ahead", x.told(0, -1, 1), BAD);
        due.is("no ACT behind", x.told(0, 2, 1), BAD);
    }

    private void placesUpToN() {
        due.says(ACTS, "PLACES are 0 .. n (n: how many ACTS");
        for (int n = 1; n <= 59; n += 29) {
            StoryDecompile x = with(times(n, DONE, 0, 0, 0));
            for (int kind = GO; kind <= TEST; kind++) {
                x.alter(0, n - 1, kind, 0, 0, 0);
                due.is("PLACE 0 of " + n, x.of(0, 1), 1);
                x.alter(0, n - 1, kind, 0, 0, n);
                due.is("PLACE n of " + n, x.of(0, 1), 1);
                x.alter(0, n - 1, kind, 0, 0, n + 1);
                due.is("PLACE n + 1 of " + n, x.of(0, 1), 0);
            }
        }
        due.is("PLACE 60 of 60", with(times(60, GO, 0, 0, 60)).of(0, 1), 1);
    }

    private void overAtPlaceN() {
        due.says(ACTS, "what comes there is over");
        StoryDecompile go = with(GO, 0, 0, 2, SAY, 1, 0, 0);
        due.is("a GO to PLACE n", go.run(0, 10), 0);
        due.is("STEPS", go.ran(0), 1);
        due.is("nothing was said", go.ran(1), 0);
        StoryDecompile test = with(TEST, 0, 0, 2, SAY, 1, 0, 0);
        due.is("a TEST to PLACE n", test.run(0, 10), 0);
        due.is("STEPS", test.ran(0), 1);
        StoryDecompile last = with(SAY, 1, 0, 0);
        due.is("behind the last ACT", last.run(0, 10), 0);
        due.is("STEPS", last.ran(0), 1);
        due.is("PLACE 0 of no ACTS", with().run(0, 10), 0);
    }

    private void fourRegisters() {
        due.says(ACTS, "REGISTERS 0 .. 3 are ints");
        StoryDecompile x = with(ADD, 0, 10, 0, ADD, 1, 20, 0, ADD, 2, 30, 0, ADD, 3, 40, 0);
        int[] first = {MIN, -1, 1, MAX - 40};
        for (int i = 0; i < 4; i++) {
            due.is("set " + i, x.set(i, first[i]), 0);
        }
        due.is("no REGISTER 4", x.set(4, 1), BAD);
        due.is("no REGISTER -1", x.set(-1, 1), BAD);
        x.run(0, 4);
        for (int i = 0; i < 4; i++) {
            due.is("REGISTER " + i, x.ran(4 + i), first[i] + 10 * (i + 1));
        }
    }

    private void registersRunOver() {
        due.says(ACTS, "are ints, running over");
        int[][] sums = {{MAX, 1, MIN}, {MIN, -1, MAX}, {MAX, MAX, -2}, {MIN, MIN, 0}, {-1, MIN, MAX}, {1, MAX, MIN}};
        for (int[] sum : sums) {
            for (int register = 0; register < 4; register++) {
                StoryDecompile x = with(ADD, register, sum[1], 0, TEST, register, 2, 3, SAY, 1, 0, 0);
                x.set(register, sum[0]);
                due.is("it goes on", x.run(0, 9), 0);
                due.is(sum[0] + " and " + sum[1] + " more", x.ran(4 + register), sum[2]);
                due.is("a TEST sees it", x.ran(1), sum[2] < 0 ? 0 : 1);
            }
        }
    }

    private void sayAnyNumber() {
        due.says(ACTS, "0 SAY a: it comes OUT.");
        int[] numbers = {MIN, -4, -3, BAD, NONE, 0, 1, 61, MAX};
        StoryDecompile x = with();
        for (int i = 0; i < numbers.length; i++) {
            due.is("SAY " + numbers[i], x.act(0, SAY, numbers[i], 0, 0), i);
        }
        x.run(0, 100);
        for (int i = 0; i < numbers.length; i++) {
            due.is("OUT comes " + numbers[i], x.out(i), numbers[i]);
        }
    }

    private void addsRegister() {
        due.says(ACTS, "1 ADD a b: REGISTER a (0 .. 3)");
        StoryDecompile x = with();
        due.is("REGISTER -1", x.act(0, ADD, -1, 1, 0), BAD);
        due.is("REGISTER 0", x.act(0, ADD, 0, 1, 0), 0);
        due.is("REGISTER 3", x.act(0, ADD, 3, 1, 0), 1);
        due.is("REGISTER 4", x.act(0, ADD, 4, 1, 0), BAD);
        due.is("REGISTER MIN", x.act(0, ADD, MIN, 1, 0), BAD);
        due.is("REGISTER MAX", x.act(0, ADD, MAX, 1, 0), BAD);
    }

    private void addsAnyNumber() {
        due.says(ACTS, "becomes b more");
        int[] numbers = {MIN, -1, 0, 1, 60, 61, MAX};
        for (int b : numbers) {
            StoryDecompile x = with();
            due.is("ADD " + b, x.act(0, ADD, 2, b, 0), 0);
            due.is("b", x.told(0, 0, 2), b);
            x.run(0, 1);
            due.is("REGISTER 2", x.ran(6), b);
            due.is("REGISTER 1", x.ran(5), 0);
            due.is("REGISTER 3", x.ran(7), 0);
        }
    }

    private void goesToPlace() {
        due.says(ACTS, "2 GO c: to PLACE c.");
        StoryDecompile x = with(GO, 0, 0, 2, SAY, 1, 0, 0, SAY, 2, 0, 0);
        x.run(0, 9);
        due.is("forth: how many OUT", x.ran(1), 1);
        due.is("forth: OUT", x.out(0), 2);
        StoryDecompile back = with(SAY, 1, 0, 0, GO, 0, 0, 0);
        due.is("back", back.run(0, 5), 1);
        due.is("back: how many OUT", back.ran(1), 3);
        StoryDecompile next = with(GO, 0, 0, 1, SAY, 3, 0, 0);
        due.is("to the next", next.run(0, 2), 0);
        due.is("to the next: OUT", next.out(0), 3);
    }

    private void testsRegister() {
        due.says(ACTS, "3 TEST a b c: to PLACE c, if REGISTER a is");
        StoryDecompile x = with();
        due.is("REGISTER -1", x.act(0, TEST, -1, 0, 0), BAD);
        due.is("REGISTER 4", x.act(0, TEST, 4, 0, 0), BAD);
        for (int register = 0; register < 4; register++) {
            StoryDecompile y = with();
            due.is("REGISTER " + register, y.act(0, TEST, register, 1, 2), 0);
            y.act(0, SAY, 1, 0, 0);
            for (int other = 0; other < 4; other++) {
                y.set(other, 1);
                y.run(0, 9);
                due.is("TEST of " + register + ", " + other + " is not 0", y.ran(1), other == register ? 0 : 1);
                y.set(other, 0);
            }
        }
    }

    private void testsComparison() {
        due.says(ACTS, "by b: 0 equal to 0, 1 not, 2 below 0, 3 not below, 4 above, 5 not above");
        StoryDecompile x = with();
        due.is("b -1", x.act(0, TEST, 0, -1, 0), BAD);
        due.is("b 0", x.act(0, TEST, 0, 0, 0), 0);
        due.is("b 5", x.act(0, TEST, 0, 5, 0), 1);
        due.is("b 6", x.act(0, TEST, 0, 6, 0), BAD);
        due.is("b MIN", x.act(0, TEST, 0, MIN, 0), BAD);
        due.is("b MAX", x.act(0, TEST, 0, MAX, 0), BAD);
    }

    /** Which of MIN, -1, 0, 1, MAX lead to PLACE c. */
    private void leads(int b, boolean... leading) {
        int[] values = {MIN, -1, 0, 1, MAX};
        StoryDecompile x = with(TEST, 3, b, 2, SAY, 1, 0, 0);
        for (int i = 0; i < 5; i++) {
            x.set(3, values[i]);
            x.run(0, 9);
            due.is("TEST " + b + " of " + values[i], x.ran(0), leading[i] ? 1 : 2);
        }
    }

    private void testEqual() {
        due.says(ACTS, "by b: 0 equal to 0");
        leads(0, false, false, true, false, false);
    }

    private void testNotEqual() {
        due.says(ACTS, "1 not");
        leads(1, true, true, false, true, true);
    }

    private void testBelow() {
        due.says(ACTS, "2 below 0");
        leads(2, true, true, false, false, false);
    }

    private void testNotBelow() {
        due.says(ACTS, "3 not below");
        leads(3, false, false, true, true, true);
    }

    private void testAbove() {
        due.says(ACTS, "4 above");
        leads(4, false, false, false, true, true);
    }

    private void testNotAbove() {
        due.says(ACTS, "5 not above");
        leads(5, true, true, true, false, false);
    }

    private void doneEndsItsRoutineAlone() {
        due.says(ACTS, "4 DONE: the routine is over.");
        StoryDecompile x = with(CALL, 1, 0, 0, SAY, 1, 0, 0, DONE, 0, 0, 0, SAY, 2, 0, 0);
        add(x, SAY, 3, 0, 0, DONE, 0, 0, 0, SAY, 4, 0, 0);
        due.is("all is over", x.run(0, 99), 0);
        due.is("how many OUT", x.ran(1), 2);
        due.is("of the one called", x.out(0), 3);
        due.is("of the caller", x.out(1), 1);
        due.is("DONE is a STEP", x.ran(0), 5);
    }

    private void callsUpTo11() {
        due.says(ACTS, "5 CALL a: ROUTINE a (0 .. 11)");
        StoryDecompile x = with();
        due.is("ROUTINE -1", x.act(0, CALL, -1, 0, 0), BAD);
        due.is("ROUTINE 12", x.act(0, CALL, 12, 0, 0), BAD);
        due.is("ROUTINE MIN", x.act(0, CALL, MIN, 0, 0), BAD);
        due.is("ROUTINE MAX", x.act(0, CALL, MAX, 0, 0), BAD);
        due.is("ROUTINE 11, which is not there yet", x.act(0, CALL, 11, 0, 0), 0);
        due.is("ROUTINE 0, itself", x.act(0, CALL, 0, 0, 0), 1);
        x.alter(0, 1, SAY, 9, 0, 0);
        for (int r = 1; r < 12; r++) {
            add(x, SAY, r, 0, 0);
        }
        due.is("ROUTINE 11 is called", x.run(0, 9), 0);
        due.is("ROUTINE 11 says", x.out(0), 11);
    }

    private void callGoesOnBehind() {
        due.says(ACTS, "it goes on behind it when that is over");
        StoryDecompile x = with(CALL, 1, 0, 0, SAY, 1, 0, 0, CALL, 1, 0, 0);
        x.routine();
        due.is("calls of a routine without ACTS", x.run(0, 3), 0);
        due.is("OUT", x.out(0), 1);
        due.is("CALLS", x.ran(2), 3);
        due.is("STEPS", x.ran(0), 3);
        x.act(1, ADD, 0, 1, 0);
        x.act(1, TEST, 0, 0, 0);
        due.is("over behind its last ACT", x.run(0, 99), 0);
        due.is("it was done twice", x.ran(4), 2);
        due.is("STEPS", x.ran(0), 7);
    }

    private void noUseIs0() {
        due.says(ACTS, "What an ACT has no use for is 0.");
        int[][] asked = {{SAY, 9, 7, 8}, {ADD, 1, 7, 8}, {GO, 1, 7, 8}, {TEST, 1, 2, 8}, {DONE, 1, 7, 8}, {CALL, 1, 7, 8}};
        int[][] kept = {{SAY, 9, 0, 0}, {ADD, 1, 7, 0}, {GO, 0, 0, 8}, {TEST, 1, 2, 8}, {DONE, 0, 0, 0}, {CALL, 1, 0, 0}};
        StoryDecompile x = with(DONE, 0, 0, 0);
        for (int i = 0; i < asked.length; i++) {
            int[] act = asked[i];
            x.act(0, act[0], act[1], act[2], act[3]);
            isAct("an ACT more", x, i + 1, kept[i]);
            x.alter(0, 0, act[0], act[1], act[2], act[3]);
            isAct("another ACT", x, 0, kept[i]);
        }
    }

    /** Whether each ACT is COME TO, and how many are not. */
    private void comes(String what, StoryDecompile x, int... met) {
        int not = 0;
        for (int i = 0; i < met.length; i++) {
            due.is(what + ": ACT " + i, x.told(0, i, 5), met[i]);
            not += 1 - met[i];
        }
        due.is(what + ": how many are not", x.of(0, 5), not);
    }

    private void act0IsComeTo() {
        due.says(COME_TO, "COME TO are ACT 0");
        comes("no ACTS", with());
        comes("ACT 0 alone", with(DONE, 0, 0, 0), 1);
        comes("ACT 0, which nothing leads to", with(GO, 0, 0, 2, GO, 0, 0, 0), 1, 0);
    }

    private void onlyWhatIsComeToLeads() {
        due.says(COME_TO, "those that others, COME TO, lead to");
        comes("two that lead to one another alone", with(DONE, 0, 0, 0, GO, 0, 0, 2, GO, 0, 0, 1), 1, 0, 0);
        comes("one that leads to itself alone", with(DONE, 0, 0, 0, TEST, 0, 0, 1), 1, 0);
        comes("back and forth", with(GO, 0, 0, 3, DONE, 0, 0, 0, GO, 0, 0, 1, GO, 0, 0, 2), 1, 1, 1, 1);
        comes("all 60", with(joined(times(59, SAY, 1, 0, 0), row(GO, 0, 0, 60))), times(60, 1));
        comes("59 are not", with(times(60, DONE, 0, 0, 0)), joined(row(1), times(59, 0)));
    }

    private void eachRoutineItsOwn() {
        due.says(COME_TO, "those that others, COME TO, lead to");
        StoryDecompile x = with(GO, 0, 0, 2, DONE, 0, 0, 0, TEST, 0, 0, 1, DONE, 0, 0, 0);
        add(x, DONE, 0, 0, 0, SAY, 1, 0, 0, SAY, 1, 0, 0, SAY, 1, 0, 0);
        x.routine();
        int[] not = {0, 3, 0};
        for (int r : row(0, 1, 2, 1, 0, 2, 0)) {
            due.is("how many are not, of " + r, x.of(r, 5), not[r]);
        }
        for (int i = 0; i < 4; i++) {
            due.is("ACT " + i + " of 0", x.told(0, i, 5), 1);
            due.is("ACT " + i + " of 1", x.told(1, i, 5), i == 0 ? 1 : 0);
        }
    }

    private void goLeadsToItsPlaceAlone() {
        due.says(COME_TO, "GO to its PLACE");
        comes("not to the next one", with(GO, 0, 0, 2, SAY, 1, 0, 0, SAY, 2, 0, 0), 1, 0, 1);
        comes("to PLACE n, where there is none", with(GO, 0, 0, 2, SAY, 1, 0, 0), 1, 0);
        comes("to itself", with(GO, 0, 0, 0, SAY, 1, 0, 0), 1, 0);
        comes("to the next one", with(GO, 0, 0, 1, SAY, 1, 0, 0), 1, 1);
    }

    private void testLeadsBothWays() {
        due.says(COME_TO, "TEST there and to the next one");
        comes("both", with(TEST, 0, 0, 3, DONE, 0, 0, 0, DONE, 0, 0, 0, DONE, 0, 0, 0), 1, 1, 0, 1);
        comes("to PLACE n", with(TEST, 0, 0, 2, DONE, 0, 0, 0), 1, 1);
        comes("the last ACT", with(GO, 0, 0, 3, SAY, 1, 0, 0, DONE, 0, 0, 0, TEST, 0, 0, 1), 1, 1, 1, 1);
    }

    private void doneLeadsNowhere() {
        due.says(COME_TO, "DONE nowhere");
        comes("not to the next one", with(SAY, 1, 0, 0, DONE, 0, 0, 0, SAY, 2, 0, 0), 1, 1, 0);
        comes("nor to PLACE 0", with(GO, 0, 0, 2, SAY, 1, 0, 0, DONE, 0, 0, 0, SAY, 2, 0, 0), 1, 0, 1, 0);
    }

    private void othersLeadToTheNext() {
        due.says(COME_TO, "others to the next one");
        comes("SAY", with(SAY, 2, 0, 0, SAY, 1, 0, 0), 1, 1);
        comes("ADD", with(ADD, 0, 1, 0, SAY, 1, 0, 0), 1, 1);
        comes("CALL of none", with(CALL, 11, 0, 0, SAY, 1, 0, 0), 1, 1);
        comes("CALL of itself", with(CALL, 0, 0, 0, SAY, 1, 0, 0), 1, 1);
    }

    /** Twelve ROUTINES: 0 said something, 1 is not WHOLE, 2 has 60 ACTS; a FAULT; a full TAPE. */
    private static StoryDecompile busy() {
        StoryDecompile x = with(SAY, 4, 0, 0, ADD, 1, 5, 0, TEST, 0, 1, 0);
        add(x, SAY, 1, 0, 0, GO, 0, 0, 3);
        add(x, times(60, SAY, 2, 0, 0));
        for (int r = 3; r < 12; r++) {
            x.feed(12);
            if (r == 5) {
                x.write();
            }
            x.clear();
            x.routine();
        }
        x.set(3, 77);
        x.run(0, 50);
        tape(x, times(300, 1));
        return x;
    }

    private static void refuse(StoryDecompile x) {
        x.routine();
        x.write();
        x.feed(9);
        x.act(2, SAY, 9, 0, 0);
        x.act(0, 6, 0, 0, 0);
        x.act(0, ADD, 4, 0, 0);
        x.act(0, TEST, 0, 6, 0);
        x.act(0, GO, 0, 0, 61);
        x.act(12, SAY, 0, 0, 0);
        x.alter(0, 3, SAY, 9, 0, 0);
        x.alter(0, 0, -1, 9, 0, 0);
        x.alter(0, 1, ADD, -1, 9, 0);
        x.alter(0, 2, TEST, 0, 1, -1);
        x.told(0, 0, 6);
        x.of(0, 8);
        x.statement(1, 0, 0);
        x.statement(0, 9, 0);
        x.text(1, 0);
        x.text(0, -2);
        x.copy(0);
        x.copy(1);
        x.copy(12);
        x.like(0, 12);
        x.set(4, 9);
        x.set(-1, 9);
        x.run(1, 9);
        x.run(0, 10001);
        x.run(12, 9);
        x.ran(3);
        x.out(1);
    }

    private void refusalsChangeNothing() {
        due.says(REFUSALS, "REFUSALS change nothing but where told");
        StoryDecompile x = busy();
        StoryDecompile y = busy();
        refuse(y);
        for (int r = 0; r <= 12; r++) {
            due.is("ACTS of " + r, y.of(r, 0), x.of(r, 0));
            due.is("WHOLE is " + r, y.of(r, 1), x.of(r, 1));
        }
        for (int i = 0; i < 4; i++) {
            for (int what = 0; what < 6; what++) {
                due.is("ACT " + i + " what " + what, y.told(0, i, what), x.told(0, i, what));
            }
        }
        for (int what = 0; what < 8; what++) {
            due.is("ran " + what, y.ran(what), x.ran(what));
        }
        due.is("OUT", y.out(0), x.out(0));
        due.is("the place of the FAULT", y.fault(), x.fault());
        for (int register = 0; register < 4; register++) {
            due.is("REGISTER " + register, y.set(register, 0), x.set(register, 0));
        }
        due.is("numbers on THE TAPE", y.clear(), 300);
    }

    private void refusalsKeepTheTape() {
        due.says(REFUSALS, "REFUSALS change nothing but where told");
        StoryDecompile x = with(GO, 0, 0, 9);
        add(x, times(60, SAY, 1, 0, 0));
        tape(x, 4);
        tape(x, times(4, PLAIN, SAY, 3, 0));
        tape(x, times(283, 0));
        due.is("copy of what is not WHOLE", x.copy(0), NO);
        due.is("copy of none", x.copy(2), BAD);
        due.is("copy of what is too long", x.copy(1), FULL);
        due.is("feed of a full TAPE", x.feed(5), FULL);
        due.is("write", x.write(), -17);
        due.is("its place is behind what came first", x.fault(), 17);
    }

    private void badIsNoSuchOne() {
        due.says(REFUSALS, "BAD (no such one, a number out of its bounds)");
        StoryDecompile x = with(SAY, 1, 0, 0);
        int[] none = {MIN, -2, -1, 1, 11, 12, MAX};
        for (int r : none) {
            due.is("act of " + r, x.act(r, SAY, 0, 0, 0), BAD);
            due.is("alter of " + r, x.alter(r, 0, SAY, 0, 0, 0), BAD);
            due.is("told of " + r, x.told(r, 0, 0), BAD);
            due.is("of " + r, x.of(r, 0), BAD);
            due.is("statement of " + r, x.statement(r, 0, 0), BAD);
            due.is("text of " + r, x.text(r, NONE), BAD);
            due.is("copy of " + r, x.copy(r), BAD);
            due.is("like of " + r, x.like(r, 0), BAD);
            due.is("like to " + r, x.like(0, r), BAD);
            due.is("run of " + r, x.run(r, 1), BAD);
        }
    }

    private void badAheadOfNo() {
        due.says(REFUSALS, "of several the first told: BAD (no such one, a number out of its bounds), NO");
        StoryDecompile x = with(GO, 0, 0, 2);
        due.is("statement, what is BAD", x.statement(0, 0, 6), BAD);
        due.is("statement, NO", x.statement(0, 0, 5), NO);
        due.is("run, steps are BAD", x.run(0, 10001), BAD);
        due.is("run, steps are BAD", x.run(0, -1), BAD);
        due.is("run, NO", x.run(0, 10000), NO);
        due.is("text, i is BAD", x.text(0, -2), BAD);
        due.is("text, NO", x.text(0, NONE), NO);
    }

    private void badAheadOfFull() {
        due.says(REFUSALS, "of several the first told: BAD (no such one, a number out of its bounds), NO, FULL");
        StoryDecompile x = with(times(60, SAY, 1, 0, 0));
        due.is("act, kind is BAD", x.act(0, 6, 0, 0, 0), BAD);
        due.is("act, a is BAD", x.act(0, ADD, 4, 0, 0), BAD);
        due.is("act, b is BAD", x.act(0, TEST, 0, 6, 0), BAD);
        due.is("act, c is BAD", x.act(0, GO, 0, 0, 61), BAD);
        due.is("act, FULL", x.act(0, GO, 0, 0, 60), FULL);
        tape(x, times(300, 0));
        due.is("copy, r is BAD", x.copy(1), BAD);
        due.is("copy, FULL", x.copy(0), FULL);
    }

    private void noAheadOfFull() {
        due.says(REFUSALS, "of several the first told: BAD (no such one, a number out of its bounds), NO, FULL");
        StoryDecompile x = with(GO, 0, 0, 2);
        tape(x, times(300, 0));
        due.is("copy, NO", x.copy(0), NO);
        x.act(0, DONE, 0, 0, 0);
        due.is("copy, FULL", x.copy(0), FULL);
    }
}
