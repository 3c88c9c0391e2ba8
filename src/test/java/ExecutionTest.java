/** Promises 19 to 26: setInitial, run, finalValue, outputs, output, differences, meanSteps, filledShare. */
final class ExecutionTest {
    public static void main(String[] args) {
        setInitialTellsThePreviousValue();
        runPerformsEveryKind();
        runWrapsAround();
        runBranches();
        runCountsStepsOfTheSource();
        runCountsStepsOfTheExpandedForm();
        runTestsTheConditionBeforeTheSlot();
        aFailedRunKeepsTheEarlierOne();
        keptValuesTellErrors();
        keptValuesStayThroughChanges();
        longOutputs();
        differencesDrawsValues();
        differencesComparesEffects();
        differencesLooksAtTheEnd();
        meanStepsDivides();
        drawnExecutionsKeepNothing();
        filledShareDivides();
        Check.finish();
    }

    private static void setInitialTellsThePreviousValue() {
        BranchSlotFiller x = new BranchSlotFiller();
        Check.same("a register", x.setInitial(false, 7, Integer.MIN_VALUE), 0);
        Check.same("a register again", x.setInitial(false, 7, 5), Integer.MIN_VALUE);
        Check.same("a cell", x.setInitial(true, 15, Integer.MAX_VALUE), 0);
        Check.same("a cell again", x.setInitial(true, 15, 6), Integer.MAX_VALUE);
        Check.same("a cell with a register's number", x.setInitial(true, 7, 1), 0);
        Check.same("a register with a cell's number", x.setInitial(false, 0, 9), 0);
        x.run(false, 1);
        Check.same("register 7", x.finalValue(false, 7), 5);
        Check.same("cell 15", x.finalValue(true, 15), 6);
        Check.same("cell 7", x.finalValue(true, 7), 1);
        Check.same("register 0", x.finalValue(false, 0), 9);
        Check.same("cell 0", x.finalValue(true, 0), 0);
        for (int i : new int[] {-1, 8, 16, Integer.MAX_VALUE, Integer.MIN_VALUE}) {
            Check.fails("setInitial(false, " + i + ", 1)", Check.OUT_OF_BOUNDS, () -> x.setInitial(false, i, 1));
        }
        for (int i : new int[] {-1, 16, Integer.MAX_VALUE, Integer.MIN_VALUE}) {
            Check.fails("setInitial(true, " + i + ", 1)", Check.OUT_OF_BOUNDS, () -> x.setInitial(true, i, 1));
        }
    }

    private static void outputs(String what, BranchSlotFiller x, String due) {
        StringBuilder text = new StringBuilder();
        for (int i = 0; i < x.outputs(); i++) {
            text.append(i == 0 ? "" : " ").append(x.output(i));
        }
        Check.same("outputs of " + what, text.toString(), due);
    }

    /** Executes both forms of a program, after set registers 1 to 3 to 10, 20 and 30, and cells to 100 and so on. */
    private static BranchSlotFiller runs(String text, int sourceSteps, int expandedSteps, String due) {
        BranchSlotFiller x = Check.expanded(text);
        for (int i = 1; i <= 3; i++) {
            x.setInitial(false, i, 10 * i);
        }
        for (int i = 0; i < 16; i++) {
            x.setInitial(true, i, 100 + i);
        }
        Check.same("steps of the expanded form of " + text, x.run(true, 2000), expandedSteps);
        outputs("the expanded form of " + text, x, due);
        Check.same("steps of " + text, x.run(false, 2000), sourceSteps);
        outputs(text, x, due);
        return x;
    }

    private static void runPerformsEveryKind() {
        runs("", 0, 0, "");
        runs("nop;out 1", 2, 2, "10");
        runs("set 1 -99;out 1", 2, 2, "-99");
        runs("copy 4 2;out 4;out 2", 3, 3, "20 20");
        runs("add 4 1 2;out 4", 2, 2, "30");
        runs("add 1 1 1;out 1", 2, 2, "20");
        runs("sub 4 1 3;out 4", 2, 2, "-20");
        runs("load 4 0 3;out 4", 2, 2, "103");
        runs("load 4 1 15;out 4", 2, 2, "109");
        runs("load 4 3 15;out 4", 2, 2, "113");
        runs("halt;out 1", 1, 1, "");
        runs("out 1;halt", 2, 2, "10");
        BranchSlotFiller y = Check.expanded("copy 1 2;load 3 3 1;out 1;out 3");
        y.setInitial(false, 0, 50);
        y.setInitial(false, 2, 60);
        y.setInitial(true, 1, 70);
        y.run(true, 9);
        outputs("a copy and a load", y, "60 70");
        Check.same("cell 7", y.finalValue(true, 7), 0);
        Check.same("cell 1", y.finalValue(true, 1), 70);
        BranchSlotFiller x = runs("set 4 -1;store 1 4 0;store 2 4 1;store 3 2 5;load 5 4 2;out 5", 6, 6, "101");
        Check.same("cell 15", x.finalValue(true, 15), 10);
        Check.same("cell 0", x.finalValue(true, 0), 20);
        Check.same("cell 9", x.finalValue(true, 9), 30);
        Check.same("cell 8", x.finalValue(true, 8), 108);
        Check.same("register 4", x.finalValue(false, 4), -1);
        Check.same("register 5", x.finalValue(false, 5), 101);
        Check.same("register 0", x.finalValue(false, 0), 0);
    }

    private static void runWrapsAround() {
        BranchSlotFiller x = Check.expanded("add 2 0 1;sub 3 2 1;sub 4 5 1;load 6 0 15;out 2;out 3;out 4;out 6");
        x.setInitial(false, 0, Integer.MAX_VALUE);
        x.setInitial(false, 1, 1);
        x.setInitial(false, 5, Integer.MIN_VALUE);
        x.setInitial(true, 14, 77);
        x.run(false, 8);
        outputs("overflow", x, "-2147483648 2147483647 2147483647 77");
        x.run(true, 8);
        outputs("overflow", x, "-2147483648 2147483647 2147483647 77");
    }

    private static void runBranches() {
        runs("jump 2;out 1;out 2", 2, 3, "20");
        runs("equal 1 1 2;out 1;out 2", 2, 3, "20");
        runs("equal 1 2 2;out 1;out 2", 3, 4, "10 20");
        runs("less 1 2 2;out 1;out 2", 2, 3, "20");
        runs("less 2 1 2;out 1;out 2", 3, 4, "10 20");
        runs("less 1 1 2;out 1;out 2", 3, 4, "10 20");
        runs("jump 1", 1, 2, "");
        runs("equal 0 0 2;out 1", 1, 2, "");
        runs("set 4 5;set 5 1;add 6 6 4;sub 4 4 5;less 0 4 2;out 6;halt", 19, 24, "15");
        BranchSlotFiller x = Check.expanded("less 1 2 2;out 1;out 2");
        x.setInitial(false, 1, Integer.MIN_VALUE);
        x.setInitial(false, 2, Integer.MAX_VALUE);
        Check.same("the least is less", x.run(false, 10), 2);
        Check.same("the least is less", x.run(true, 10), 3);
    }

    private static void runCountsStepsOfTheSource() {
        BranchSlotFiller x = Check.parsed("nop;jump 3;nop;halt");
        for (int limit : new int[] {0, -1, 2001, Integer.MAX_VALUE, Integer.MIN_VALUE}) {
            Check.fails("run(false, " + limit + ")", Check.ARGUMENT, () -> x.run(false, limit));
            Check.fails("run(true, " + limit + ")", Check.ARGUMENT, () -> x.run(true, limit));
        }
        Check.fails("1 step", Check.UNSUPPORTED, () -> x.run(false, 1));
        Check.fails("2 steps", Check.UNSUPPORTED, () -> x.run(false, 2));
        Check.same("halt is a step", x.run(false, 3), 3);
        Check.same("3 of 2000 steps", x.run(false, 2000), 3);
        BranchSlotFiller y = Check.parsed("nop;nop");
        Check.fails("1 step", Check.UNSUPPORTED, () -> y.run(false, 1));
        Check.same("the end is no step", y.run(false, 2), 2);
        BranchSlotFiller z = Check.expanded("jump 0");
        Check.fails("without end", Check.UNSUPPORTED, () -> z.run(false, 2000));
        Check.fails("without end", Check.UNSUPPORTED, () -> z.run(true, 2000));
        BranchSlotFiller none = new BranchSlotFiller();
        Check.same("no step", none.run(false, 1), 0);
        Check.same("no step", none.run(true, 1), 0);
    }

    private static void runCountsStepsOfTheExpandedForm() {
        BranchSlotFiller x = Check.expanded("jump 1");
        Check.fails("a branch without its slot", Check.UNSUPPORTED, () -> x.run(true, 1));
        Check.same("a branch with its slot", x.run(true, 2), 2);
        BranchSlotFiller y = Check.expanded("less 1 2 1;out 3");
        y.fill(0, 1);
        Check.same("annulled", y.run(true, 2), 2);
        Check.fails("annulled", Check.UNSUPPORTED, () -> y.run(true, 1));
        outputs("annulled", y, "0");
        y.setInitial(false, 2, 1);
        Check.fails("not annulled", Check.UNSUPPORTED, () -> y.run(true, 1));
        Check.same("not annulled", y.run(true, 2), 2);
        outputs("not annulled", y, "0");
        BranchSlotFiller z = Check.expanded("jump 2;set 1 1;less 2 3 1");
        z.fill(3, 1);
        Check.same("the form", Check.written(z), "jump 3|nop;set 1 1;less* 2 3 3|set 1 1");
        Check.same("annulled at the end", z.run(true, 3), 3);
        z.setInitial(false, 3, 1);
        Check.fails("taken for ever", Check.UNSUPPORTED, () -> z.run(true, 2000));
    }

    private static void runTestsTheConditionBeforeTheSlot() {
        BranchSlotFiller x = Check.expanded("less 1 2 3;add 1 1 2;out 3;out 2");
        x.setInitial(false, 1, 3);
        x.setInitial(false, 2, 4);
        Check.same("fill", x.fill(0, 2), 0);
        Check.same("steps", x.run(true, 9), 3);
        outputs("the taken way", x, "4");
        Check.same("the slot is executed", x.finalValue(false, 1), 7);
        x.run(false, 9);
        Check.same("not in the source", x.finalValue(false, 1), 3);
        x.setInitial(false, 1, 4);
        Check.same("steps", x.run(true, 9), 4);
        outputs("the other way", x, "0 4");
        Check.same("the slot is executed", x.finalValue(false, 1), 8);
    }

    private static void aFailedRunKeepsTheEarlierOne() {
        BranchSlotFiller x = Check.expanded("out 1;set 1 5;store 1 0 0;out 1;jump 0");
        Check.fails("no execution before", Check.UNSUPPORTED, () -> x.run(false, 100));
        Check.fails("none is kept", Check.STATE, x::outputs);
        Check.fails("none is kept", Check.STATE, () -> x.finalValue(false, 1));
        BranchSlotFiller y = Check.expanded("set 1 9;out 1;store 1 0 3");
        y.run(false, 5);
        y.clear();
        Check.parse(y, "set 1 4;out 1;out 1;store 1 0 3;jump 0");
        Check.fails("a failed run", Check.UNSUPPORTED, () -> y.run(false, 100));
        Check.fails("a wrong limit", Check.ARGUMENT, () -> y.run(false, 0));
        outputs("the earlier run", y, "9");
        Check.same("register 1", y.finalValue(false, 1), 9);
        Check.same("cell 3", y.finalValue(true, 3), 9);
        y.clear();
        Check.same("the next run", y.run(false, 5), 0);
        outputs("the next run", y, "");
        Check.same("register 1", y.finalValue(false, 1), 0);
    }

    private static void keptValuesTellErrors() {
        BranchSlotFiller x = Check.expanded("out 1;out 2");
        Check.fails("outputs", Check.STATE, x::outputs);
        Check.fails("output(0)", Check.STATE, () -> x.output(0));
        Check.fails("output(-1)", Check.STATE, () -> x.output(-1));
        Check.fails("finalValue(false, 0)", Check.STATE, () -> x.finalValue(false, 0));
        Check.fails("finalValue(true, 16)", Check.STATE, () -> x.finalValue(true, 16));
        x.run(true, 2);
        for (int i : new int[] {-1, 2, Integer.MAX_VALUE, Integer.MIN_VALUE}) {
            Check.fails("output(" + i + ")", Check.OUT_OF_BOUNDS, () -> x.output(i));
        }
        for (int i : new int[] {-1, 8, 15, Integer.MAX_VALUE, Integer.MIN_VALUE}) {
            Check.fails("finalValue(false, " + i + ")", Check.OUT_OF_BOUNDS, () -> x.finalValue(false, i));
        }
        for (int i : new int[] {-1, 16, Integer.MAX_VALUE, Integer.MIN_VALUE}) {
            Check.fails("finalValue(true, " + i + ")", Check.OUT_OF_BOUNDS, () -> x.finalValue(true, i));
        }
    }

    private static void keptValuesStayThroughChanges() {
        BranchSlotFiller x = Check.expanded("set 1 6;out 1;store 1 0 2;equal 2 3 4");
        x.save();
        x.run(true, 9);
        x.setInitial(false, 1, 3);
        x.setInitial(true, 2, 3);
        x.fillAll(0, 1);
        x.clear();
        x.expand();
        x.undo();
        x.restore();
        outputs("the kept run", x, "6");
        Check.same("register 1", x.finalValue(false, 1), 6);
        Check.same("cell 2", x.finalValue(true, 2), 6);
    }

    private static void longOutputs() {
        BranchSlotFiller y = Check.parsed(Check.repeated("out 3", ";", 16) + ";add 3 3 4;less 3 5 0");
        y.expand();
        y.setInitial(false, 4, 1);
        y.setInitial(false, 5, 111);
        Check.same("1998 steps", y.run(false, 1998), 1998);
        Check.same("1776 outputs", y.outputs(), 1776);
        Check.same("the first output", y.output(0), 0);
        Check.same("the last output", y.output(1775), 110);
        y.setInitial(false, 5, 105);
        Check.same("1995 steps", y.run(true, 2000), 1995);
        Check.same("1680 outputs", y.outputs(), 1680);
    }

    /** What the document says of the drawing, told once more. */
    private static int[] drawn(int seed, int executions) {
        int[] values = new int[24 * executions];
        int s = seed;
        for (int i = 0; i < values.length; i++) {
            s = s * 1103515245 + 12345;
            values[i] = (s >>> 16) % 10;
        }
        return values;
    }

    private static void differencesDrawsValues() {
        // The source outputs a register and the form does not, but where it equals another register.
        for (int seed : new int[] {0, 1, -1, 12345, Integer.MIN_VALUE, Integer.MAX_VALUE}) {
            BranchSlotFiller x = Check.expanded("equal 3 5 2;out 1");
            x.clear();
            int[] values = drawn(seed, 50);
            int due = 0;
            for (int k = 0; k < 50; k++) {
                due += values[24 * k + 3] == values[24 * k + 5] ? 0 : 1;
                Check.same("differences(" + seed + ", " + (k + 1) + ")", x.differences(seed, k + 1), due);
            }
            BranchSlotFiller y = Check.expanded("load 1 7 0;store 1 7 4");
            y.clear();
            due = 0;
            for (int k = 0; k < 50; k++) {
                int cell = values[24 * k + 7];
                due += values[24 * k + 8 + cell] == values[24 * k + 8 + (cell + 4) % 16] ? 0 : 1;
                Check.same("cells: differences(" + seed + ", " + (k + 1) + ")", y.differences(seed, k + 1), due);
            }
        }
    }

    private static void differencesComparesEffects() {
        different("out 1", "out 1", 0);
        different("set 1 1", "set 1 2", 0);
        different("set 1 10;out 1", "set 1 11;out 1", 50);
        different("set 1 10;out 1", "set 1 10;out 1;out 1", 50);
        different("set 1 10;out 1;out 1", "set 1 10;out 1", 50);
        different("set 1 10;set 2 3;out 2;out 1", "set 1 10;set 2 3;out 1;out 2", 50);
        different("set 1 10;store 1 2 0", "", 50);
        different("", "set 1 10;store 1 2 15", 50);
        different("set 1 10;set 2 0;store 1 2 15", "set 1 10;set 2 3;store 1 2 12", 0);
        BranchSlotFiller x = Check.expanded("out 1");
        for (int n : new int[] {0, -1, 51, Integer.MAX_VALUE, Integer.MIN_VALUE}) {
            Check.fails("differences(1, " + n + ")", Check.ARGUMENT, () -> x.differences(1, n));
            Check.fails("meanSteps(1, " + n + ")", Check.ARGUMENT, () -> {
                x.meanSteps(1, n);
                return 0;
            });
        }
    }

    private static void different(String source, String form, int due) {
        BranchSlotFiller x = Check.expanded(form);
        x.clear();
        Check.parse(x, source);
        Check.same("differences of " + source + " and " + form, x.differences(99, 50), due);
    }

    /** A loop of three steps (four with a slot) for each of some rounds, and some steps more. */
    private static String steps(int rounds, int more) {
        return "set 1 0;set 2 1;set 3 " + rounds + ";add 1 1 2;nop;less 1 3 3"
                + Check.repeated(";nop", "", more);
    }

    private static void differencesLooksAtTheEnd() {
        // 3 + 3 * 98 = 297 steps, and 3 more.
        different(steps(98, 3), "set 1 10;out 1", 50);
        different(steps(98, 2) + ";halt", "set 1 10;out 1", 50);
        different(steps(98, 4), "set 1 10;out 1", 0);
        different(steps(98, 3) + ";halt", "set 1 10;out 1", 0);
        // 3 + 4 * 74 = 299 steps, and 1 more.
        different("set 1 10;out 1", steps(74, 1), 50);
        different("set 1 10;out 1", steps(74, 0) + ";halt", 50);
        different("set 1 10;out 1", steps(74, 2), 0);
        different("set 1 10;out 1", "jump 0", 0);
        different("jump 0", "set 1 10;out 1", 0);
        different("jump 0", "jump 0", 0);
    }

    private static void mean(String form, int n, double due) {
        BranchSlotFiller x = Check.expanded(form);
        x.clear();
        Check.sameDouble("meanSteps of " + form, x.meanSteps(99, n), due);
    }

    private static void meanStepsDivides() {
        mean("", 3, 0.0);
        mean("nop;jump 2", 7, 3.0);
        mean("jump 0", 50, 300.0);
        mean(steps(74, 1), 2, 300.0);
        mean(steps(74, 0), 2, 299.0);
        for (int seed : new int[] {0, 1, -7, Integer.MIN_VALUE}) {
            BranchSlotFiller x = Check.expanded("less 2 6 2;nop;halt");
            int[] values = drawn(seed, 50);
            double sum = 0;
            for (int k = 0; k < 50; k++) {
                sum += values[24 * k + 2] < values[24 * k + 6] ? 3 : 4;
                Check.sameDouble("meanSteps(" + seed + ", " + (k + 1) + ")", x.meanSteps(seed, k + 1), sum / (k + 1));
            }
        }
    }

    private static void drawnExecutionsKeepNothing() {
        BranchSlotFiller x = Check.expanded("out 1;store 1 0 0");
        x.differences(1, 5);
        x.meanSteps(1, 5);
        Check.fails("no execution is kept", Check.STATE, x::outputs);
        x.setInitial(false, 1, 77);
        x.run(true, 5);
        x.differences(1, 5);
        x.meanSteps(1, 5);
        outputs("the kept run", x, "77");
        Check.same("the kept cell", x.finalValue(true, 0), 77);
        Check.same("the initial value", x.setInitial(false, 1, 0), 77);
    }

    private static void share(BranchSlotFiller x, float due) {
        Check.sameDouble("filledShare", x.filledShare(), due);
    }

    private static void filledShareDivides() {
        Check.fails("no form", Check.ARITHMETIC, () -> (long) new BranchSlotFiller().filledShare());
        BranchSlotFiller none = Check.expanded("nop;halt");
        Check.fails("no branches", Check.ARITHMETIC, () -> (long) none.filledShare());
        BranchSlotFiller x = Check.expanded("out 1;jump 0;jump 0;jump 5;halt");
        share(x, 0f);
        x.fill(1, 1);
        share(x, 1f / 3f);
        x.fill(3, 1);
        share(x, 2f / 3f);
        BranchSlotFiller y = Check.expanded("set 1 1;jump 2");
        y.fill(1, 0);
        share(y, 1f);
    }
}
