/**
 * The sentences of "What it is" and of "Description", from its beginning to Liveness, that name a boundary case: each
 * one has a test of its own, which begins with it.
 */
final class MachineSentencesTest {
    private static final int LEAST = Integer.MIN_VALUE;
    private static final int GREATEST = Integer.MAX_VALUE;

    public static void main(String[] args) {
        anObjectIsUsedFor512Calls();
        ofSeveralExceptionsTheFirstIsThrown();
        registersAndCellsAreNumberedFrom0();
        arithmeticWrapsAround();
        initialValuesAreAtFirst0();
        anExecutionBeginsWithTheInitialValues();
        nopDoesNothing();
        setGoesFromMinus99To99();
        copyReadsAndWrites();
        addAndSubUseTheOldValues();
        cellNumbersWrapAround();
        outAppends();
        equalBranchesOfEqualsAlone();
        lessBranchesOfLessAlone();
        haltEnds();
        missingOperandsAre0();
        theSourceHasAtMost30Instructions();
        aTargetCanBeTheEnd();
        anExecutionOfTheSourceBeginsWith0();
        anExecutionOfTheSourceEndsWithHaltOrAtTheEnd();
        theExpandedFormIsAtFirstEmpty();
        theEntryAfterABranchIsItsSlot();
        aTargetIsNoSlot();
        anExecutionOfTheExpandedFormBeginsWith0();
        theConditionIsTestedBeforeTheSlot();
        theSlotIsSkippedIfAnnullingAndNotTaken();
        stepsAreCounted();
        bothWaysOfAConditionalBranchCount();
        aJumpHasOneWay();
        haltHasNoWay();
        aWayCanBeLong();
        theSlotLiesOnTheWay();
        theBranchReadsBeforeItsSlotWrites();
        aRegisterIsReadBeforeItIsWritten();
        atTheEndNoRegisterIsLive();
        Check.finish();
    }

    private static void anObjectIsUsedFor512Calls() {
        Check.sentence("An object is used for at most 512 calls after it has been made");
        BranchSlotFiller x = new BranchSlotFiller();
        Check.same("calls 1 to 6", Check.parse(x, "out 1"), 1);
        for (int call = 7; call <= 510; call++) {
            Check.same("call " + call + ", expand", x.expand(), 1);
        }
        Check.same("call 511, undo", x.undo(), 7);
        Check.same("call 512, entries", x.entries(), 1);
        BranchSlotFiller y = new BranchSlotFiller();
        for (int call = 1; call <= 511; call += 2) {
            Check.same("call " + call + ", run", y.run(true, 2000), 0);
            Check.same("call " + (call + 1) + ", write", y.write(), 0);
        }
    }

    private static void ofSeveralExceptionsTheFirstIsThrown() {
        Check.sentence("If several exceptions apply, the one named first is thrown");
        BranchSlotFiller x = Check.expanded("set 1 1;jump 0;halt");
        Check.fails("instruction, no such instruction and no such part", Check.OUT_OF_BOUNDS, () -> x.instruction(3, 4));
        Check.fails("instruction, no such instruction and no such part", Check.OUT_OF_BOUNDS,
                () -> x.instruction(-1, -1));
        Check.fails("entry, no such entry and no such part", Check.OUT_OF_BOUNDS, () -> x.entry(4, 7));
        Check.fails("entry, no such entry and no such part", Check.OUT_OF_BOUNDS, () -> x.entry(-1, -1));
        Check.fails("candidate, no such entry and no such way", Check.OUT_OF_BOUNDS, () -> x.candidate(4, 3));
        Check.fails("candidate, no such way and no branch", Check.ARGUMENT, () -> x.candidate(3, 3));
        Check.fails("candidate, no such way and a slot", Check.ARGUMENT, () -> x.candidate(2, -1));
        Check.fails("candidate, no branch and no candidate", Check.STATE, () -> x.candidate(3, 2));
        Check.fails("fill, no such entry and no such way", Check.OUT_OF_BOUNDS, () -> x.fill(-1, -1));
        Check.fails("fill, no such way and no branch", Check.ARGUMENT, () -> x.fill(0, 3));
        Check.fails("fill, no branch and no candidate", Check.STATE, () -> x.fill(0, 2));
        Check.same("fill", x.fill(1, 1), 1);
        Check.fails("candidate, no such way and a filled slot", Check.ARGUMENT, () -> x.candidate(1, 3));
        Check.fails("candidate, a filled slot and no candidate", Check.STATE, () -> x.candidate(1, 2));
        Check.fails("fill, a filled slot and no candidate", Check.STATE, () -> x.fill(1, 2));
        Check.fails("run, a wrong limit and more steps", Check.ARGUMENT, () -> x.run(true, 0));
        Check.fails("finalValue, nothing kept and no such register", Check.STATE, () -> x.finalValue(false, 8));
        Check.fails("output, nothing kept and no such index", Check.STATE, () -> x.output(-1));
        BranchSlotFiller full = Check.parsed(Check.repeated("nop", ";", 30));
        Check.feed(full, "out 8");
        Check.fails("parse, out of range and too many instructions", Check.ARGUMENT, full::parse);
    }

    private static void registersAndCellsAreNumberedFrom0() {
        Check.sentence("The machine has 8 registers, numbered from 0, and 16 memory cells, numbered from 0");
        BranchSlotFiller x = Check.expanded("out 0;out 7");
        for (int i = 0; i < 8; i++) {
            Check.same("setInitial of register " + i, x.setInitial(false, i, 100 + i), 0);
        }
        for (int i = 0; i < 16; i++) {
            Check.same("setInitial of cell " + i, x.setInitial(true, i, 200 + i), 0);
        }
        x.run(true, 2);
        Check.same("outputs", Check.outputs(x), "100 107");
        for (int i = 0; i < 8; i++) {
            Check.same("register " + i, x.finalValue(false, i), 100 + i);
        }
        for (int i = 0; i < 16; i++) {
            Check.same("cell " + i, x.finalValue(true, i), 200 + i);
        }
        Check.fails("register 8", Check.OUT_OF_BOUNDS, () -> x.finalValue(false, 8));
        Check.fails("register -1", Check.OUT_OF_BOUNDS, () -> x.finalValue(false, -1));
        Check.fails("cell 16", Check.OUT_OF_BOUNDS, () -> x.finalValue(true, 16));
        Check.fails("cell -1", Check.OUT_OF_BOUNDS, () -> x.finalValue(true, -1));
    }

    /** Executes both forms of a program that outputs register 0, with initial values for registers 1 and 2. */
    private static void calculates(String text, int one, int two, int due) {
        BranchSlotFiller x = Check.expanded(text + ";out 0");
        x.setInitial(false, 1, one);
        x.setInitial(false, 2, two);
        for (int form = 0; form < 2; form++) {
            String what = text + " of " + one + " and " + two + (form == 0 ? " in the source" : " in the expanded form");
            x.run(form == 1, 9);
            Check.same(what, x.output(0), due);
        }
    }

    private static void arithmeticWrapsAround() {
        Check.sentence("All of them hold ints; arithmetic wraps around");
        calculates("add 0 1 2", GREATEST, 1, LEAST);
        calculates("add 0 1 2", LEAST, -1, GREATEST);
        calculates("add 0 1 2", GREATEST, GREATEST, -2);
        calculates("add 0 1 2", LEAST, LEAST, 0);
        calculates("add 0 1 2", GREATEST, 0, GREATEST);
        calculates("sub 0 1 2", LEAST, 1, GREATEST);
        calculates("sub 0 1 2", GREATEST, -1, LEAST);
        calculates("sub 0 1 2", 0, LEAST, LEAST);
        calculates("sub 0 1 2", LEAST, GREATEST, 1);
        calculates("copy 0 1", LEAST, 0, LEAST);
    }

    private static void initialValuesAreAtFirst0() {
        Check.sentence("There is an initial value for each register and each cell, at first 0");
        BranchSlotFiller x = new BranchSlotFiller();
        x.run(true, 1);
        for (int i = 0; i < 24; i++) {
            boolean isCell = i >= 8;
            int number = isCell ? i - 8 : i;
            String what = (isCell ? "cell " : "register ") + number;
            Check.same("the final value of " + what, x.finalValue(isCell, number), 0);
            Check.same("the initial value of " + what, x.setInitial(isCell, number, 1), 0);
        }
    }

    private static void anExecutionBeginsWithTheInitialValues() {
        Check.sentence("An execution begins with these values and with an empty output");
        BranchSlotFiller x = Check.expanded("add 1 1 2;out 1;load 3 4 15;add 3 3 2;store 3 4 15;out 3");
        x.setInitial(false, 1, 10);
        x.setInitial(false, 2, 1);
        x.setInitial(true, 15, 40);
        for (int round = 0; round < 4; round++) {
            Check.same("steps", x.run(round % 2 == 0, 6), 6);
            Check.same("outputs of round " + round, Check.outputs(x), "11 41");
            Check.same("register 1 of round " + round, x.finalValue(false, 1), 11);
            Check.same("cell 15 of round " + round, x.finalValue(true, 15), 41);
        }
        Check.same("the initial value stays", x.setInitial(false, 1, 10), 10);
        Check.same("the initial value stays", x.setInitial(true, 15, 40), 40);
    }

    private static void nopDoesNothing() {
        Check.sentence("0 nop: nothing happens");
        BranchSlotFiller x = Check.expanded("nop;nop");
        x.setInitial(false, 0, 5);
        x.setInitial(true, 0, 6);
        Check.same("steps", x.run(true, 2), 2);
        Check.same("outputs", x.outputs(), 0);
        Check.same("register 0", x.finalValue(false, 0), 5);
        Check.same("cell 0", x.finalValue(true, 0), 6);
    }

    private static void setGoesFromMinus99To99() {
        Check.sentence("1 set a c: register a becomes c, from -99 to 99");
        calculates("set 0 -99", 1, 2, -99);
        calculates("set 0 99", 1, 2, 99);
        calculates("set 0 0", 1, 2, 0);
        calculates("set 0 -1", 1, 2, -1);
        parses("set 0 100", -108);
        parses("set 0 -100", -109);
    }

    private static void parses(String text, int due) {
        Check.same("parse \"" + text + "\"", Check.parse(new BranchSlotFiller(), text), due);
    }

    private static void copyReadsAndWrites() {
        Check.sentence("2 copy a b: register a becomes register b");
        calculates("copy 0 2", 1, 7, 7);
        calculates("copy 1 2;add 0 1 2", 1, 7, 14);
        calculates("copy 1 1;copy 0 1", 3, 7, 3);
    }

    private static void addAndSubUseTheOldValues() {
        Check.sentence("3 add a b c, 4 sub a b c: register a becomes register b plus (minus) register c");
        calculates("add 1 1 1;copy 0 1", 21, 0, 42);
        calculates("sub 1 1 1;copy 0 1", 21, 0, 0);
        calculates("sub 2 1 2;copy 0 2", 21, 1, 20);
        calculates("sub 1 1 2;copy 0 1", 1, 21, -20);
        calculates("add 2 1 2;copy 0 2", -5, 5, 0);
    }

    private static void cellNumbersWrapAround() {
        Check.sentence("5 load, 6 store: the cell whose number is (register b plus c) & 15, where c is from 0 to 15");
        cell(0, 0, 0);
        cell(0, 15, 15);
        cell(15, 0, 15);
        cell(15, 1, 0);
        cell(15, 15, 14);
        cell(16, 0, 0);
        cell(1, 15, 0);
        cell(-1, 0, 15);
        cell(-1, 1, 0);
        cell(-16, 0, 0);
        cell(-17, 0, 15);
        cell(-17, 15, 14);
        cell(LEAST, 0, 0);
        cell(LEAST, 15, 15);
        cell(GREATEST, 0, 15);
        cell(GREATEST, 1, 0);
        cell(GREATEST, 15, 14);
        outOfRange("load 0 1 16");
        outOfRange("store 0 1 16");
    }

    private static void cell(int register, int offset, int due) {
        BranchSlotFiller x = Check.expanded("load 0 1 " + offset + ";store 2 1 " + offset + ";out 0");
        x.setInitial(false, 1, register);
        x.setInitial(false, 2, 77);
        for (int i = 0; i < 16; i++) {
            x.setInitial(true, i, 100 + i);
        }
        x.run(true, 3);
        String what = " with " + register + " and " + offset;
        Check.same("load" + what, x.output(0), 100 + due);
        for (int i = 0; i < 16; i++) {
            Check.same("cell " + i + " after store" + what, x.finalValue(true, i), i == due ? 77 : 100 + i);
        }
    }

    private static void outOfRange(String text) {
        BranchSlotFiller x = new BranchSlotFiller();
        Check.feed(x, text);
        Check.fails("parse \"" + text + "\"", Check.ARGUMENT, x::parse);
    }

    private static void outAppends() {
        Check.sentence("7 out a: register a is appended to the output");
        BranchSlotFiller x = Check.expanded("out 7;out 0;out 7");
        x.setInitial(false, 7, LEAST);
        x.run(false, 3);
        Check.same("outputs", Check.outputs(x), "-2147483648 0 -2147483648");
        Check.same("register 7 stays", x.finalValue(false, 7), LEAST);
    }

    /** Executes both forms of a branch to the end of the program, over an out; answers whether they took it. */
    private static void branches(String condition, int one, int two, boolean due) {
        BranchSlotFiller x = Check.expanded(condition + ";out 1");
        x.setInitial(false, 1, one);
        x.setInitial(false, 2, two);
        String what = condition + " with " + one + " and " + two;
        x.run(false, 9);
        Check.same(what + " in the source", x.outputs(), due ? 0 : 1);
        x.run(true, 9);
        Check.same(what + " in the expanded form", x.outputs(), due ? 0 : 1);
    }

    private static void equalBranchesOfEqualsAlone() {
        Check.sentence("8 equal a b c: branches to c if registers a and b are equal");
        branches("equal 1 2 2", 5, 5, true);
        branches("equal 1 2 2", 5, 6, false);
        branches("equal 1 2 2", 6, 5, false);
        branches("equal 1 2 2", 5, -5, false);
        branches("equal 1 2 2", LEAST, LEAST, true);
        branches("equal 1 2 2", LEAST, GREATEST, false);
        branches("equal 1 2 2", 1000, 1000, true);
        branches("equal 1 1 2", 5, 6, true);
    }

    private static void lessBranchesOfLessAlone() {
        Check.sentence("9 less a b c: branches to c if register a is less than register b");
        branches("less 1 2 2", 5, 6, true);
        branches("less 1 2 2", 5, 5, false);
        branches("less 1 2 2", 6, 5, false);
        branches("less 1 2 2", -1, 0, true);
        branches("less 1 2 2", LEAST, GREATEST, true);
        branches("less 1 2 2", GREATEST, LEAST, false);
        branches("less 1 2 2", LEAST, LEAST, false);
        branches("less 1 1 2", 5, 6, false);
        Check.sentence("10 jump c: branches to c");
        branches("jump 2", 0, 0, true);
        branches("jump 1", 0, 0, false);
    }

    private static void haltEnds() {
        Check.sentence("11 halt: the execution ends");
        BranchSlotFiller x = Check.expanded("halt;out 1");
        for (int form = 0; form < 2; form++) {
            Check.same("steps", x.run(form == 1, 1), 1);
            Check.same("outputs", x.outputs(), 0);
        }
    }

    private static void missingOperandsAre0() {
        Check.sentence("An operand that an instruction does not have is 0");
        BranchSlotFiller x = Check.expanded("nop;set 7 9;copy 7 6;out 5;jump 1;halt;equal 1 2 3");
        String[] due = {"0 0 0 0", "1 7 0 9", "2 7 6 0", "7 5 0 0", "10 0 0 1", "11 0 0 0", "8 1 2 3"};
        for (int i = 0; i < due.length; i++) {
            Check.same("instruction " + i, Check.instruction(x, i), due[i]);
        }
        // A nop of a slot stands where an earlier form had an instruction with operands.
        x.clear();
        Check.parse(x, "jump 1;jump 1;halt;nop;jump 5");
        x.expand();
        String[] then = {"10 0 0 2 0 0 0", "0 0 0 0 1 0 0", "10 0 0 2 0 0 2", "0 0 0 0 1 0 0", "11 0 0 0 0 0 0",
            "0 0 0 0 0 0 0", "10 0 0 8 0 0 0", "0 0 0 0 1 0 0"};
        for (int i = 0; i < then.length; i++) {
            Check.same("entry " + i, Check.entry(x, i), then[i]);
        }
    }

    private static void theSourceHasAtMost30Instructions() {
        Check.sentence("The source is a list of at most 30 instructions, numbered from 0, at first empty");
        BranchSlotFiller x = new BranchSlotFiller();
        Check.same("at first", x.instructions(), 0);
        Check.fails("no instruction 0 at first", Check.OUT_OF_BOUNDS, () -> x.instruction(0, 0));
        Check.parse(x, "out 1;" + Check.repeated("nop", ";", 28));
        Check.same("29", x.instructions(), 29);
        Check.same("the 30th", Check.parse(x, "out 2"), 1);
        Check.same("30", x.instructions(), 30);
        Check.same("instruction 0", Check.instruction(x, 0), "7 1 0 0");
        Check.same("instruction 29", Check.instruction(x, 29), "7 2 0 0");
        Check.fails("instruction 30", Check.OUT_OF_BOUNDS, () -> x.instruction(30, 0));
        Check.feed(x, "out 3");
        Check.fails("the 31st", Check.STATE, x::parse);
        Check.same("30 still", x.instructions(), 30);
        Check.same("the last one still", Check.instruction(x, 29), "7 2 0 0");
    }

    private static void aTargetCanBeTheEnd() {
        Check.sentence("A target is the number of an instruction or the number of instructions, which is called its end");
        BranchSlotFiller x = new BranchSlotFiller();
        Check.same("the end of one", Check.parse(x, "jump 1"), 1);
        Check.same("its number", x.instruction(0, 3), 1);
        Check.same("it ends", x.run(false, 1), 1);
        Check.same("the first one", Check.parse(new BranchSlotFiller(), "jump 0"), 1);
        Check.same("the last one", Check.parse(new BranchSlotFiller(), "jump 1;nop"), 2);
        outOfRange("jump 2");
        outOfRange("nop;jump 3");
        outOfRange("equal 1 2 2");
        outOfRange("less 1 2 2");
        outOfRange("jump 99");
        BranchSlotFiller full = Check.parsed("jump 23;" + Check.repeated("nop", ";", 22));
        Check.parse(full, "jump 7;nop;nop;nop;nop;nop;nop");
        Check.same("the end of 30", full.instruction(23, 3), 30);
        Check.same("the end of the first text", full.instruction(0, 3), 23);
        Check.same("2 steps", full.run(false, 9), 2);
    }

    private static void anExecutionOfTheSourceBeginsWith0() {
        Check.sentence("An execution of the source begins with instruction 0, and goes on with the following one, or with "
                + "the target of a branch that is taken");
        BranchSlotFiller x = Check.parsed("out 1;jump 3;out 2;less 1 2 2;halt");
        x.setInitial(false, 1, 1);
        Check.same("steps, not taken", x.run(false, 9), 4);
        Check.same("outputs, not taken", Check.outputs(x), "1");
        x.setInitial(false, 2, 5);
        Check.fails("for ever, taken", Check.UNSUPPORTED, () -> x.run(false, 2000));
        BranchSlotFiller y = Check.parsed("jump 3;out 1;halt;out 2;jump 1");
        y.setInitial(false, 2, 2);
        Check.same("steps backwards", y.run(false, 5), 5);
        Check.same("outputs backwards", Check.outputs(y), "2 0");
        Check.same("the expanded form is another thing", y.run(true, 5), 0);
    }

    private static void anExecutionOfTheSourceEndsWithHaltOrAtTheEnd() {
        Check.sentence("It ends with halt or at the end");
        Check.same("the end", Check.parsed("out 1;out 2").run(false, 2), 2);
        Check.same("halt as the last one", Check.parsed("out 1;halt").run(false, 2), 2);
        Check.same("halt before others", Check.parsed("out 1;halt;out 1").run(false, 2), 2);
        Check.same("a target that is the end", Check.parsed("jump 2;out 1").run(false, 1), 1);
        Check.same("a branch that is not taken as the last one", Check.parsed("less 1 1 0").run(false, 1), 1);
        Check.same("the end of 30", Check.parsed(Check.repeated("nop", ";", 30)).run(false, 30), 30);
        Check.same("no instruction", new BranchSlotFiller().run(false, 1), 0);
    }

    private static void theExpandedFormIsAtFirstEmpty() {
        Check.sentence("The expanded form is a list of entries, numbered from 0, at first empty");
        BranchSlotFiller x = Check.parsed("out 1;nop;out 2");
        Check.same("at first", x.entries(), 0);
        Check.fails("no entry 0 at first", Check.OUT_OF_BOUNDS, () -> x.entry(0, 0));
        x.expand();
        Check.same("entry 0", Check.entry(x, 0), "7 1 0 0 0 0 0");
        Check.same("entry 2", Check.entry(x, 2), "7 2 0 0 0 0 0");
        Check.fails("entry 3", Check.OUT_OF_BOUNDS, () -> x.entry(3, 0));
    }

    private static void slots(BranchSlotFiller x, String due) {
        StringBuilder text = new StringBuilder();
        for (int i = 0; i < x.entries(); i++) {
            text.append(x.entry(i, 4));
        }
        Check.same("slots of " + Check.written(x), text.toString(), due);
    }

    private static void theEntryAfterABranchIsItsSlot() {
        Check.sentence("The entry after a branch is the slot of the branch and is no branch and no halt");
        slots(Check.expanded("nop;halt"), "00");
        slots(Check.expanded("jump 1"), "01");
        slots(Check.expanded("jump 1;halt"), "010");
        slots(Check.expanded("equal 1 2 2;less 1 2 1;jump 0"), "010101");
        BranchSlotFiller x = Check.expanded("jump 2;nop;jump 4;nop;halt");
        Check.fails("a branch at the target is no candidate", Check.NO_ELEMENT, () -> x.fill(0, 1));
        Check.fails("halt at the target is no candidate", Check.NO_ELEMENT, () -> x.fill(3, 1));
        BranchSlotFiller y = Check.expanded("less 1 2 2;less 3 4 3;halt");
        Check.fails("a branch that follows is no candidate", Check.NO_ELEMENT, () -> y.fill(0, 2));
        Check.fails("halt that follows is no candidate", Check.NO_ELEMENT, () -> y.fill(2, 2));
        slots(y, "01010");
    }

    private static void aTargetIsNoSlot() {
        Check.sentence("A target is the number of an entry that is no slot, or the number of entries, its end");
        for (int way = 0; way < 6; way++) {
            BranchSlotFiller x = Check.expanded("set 1 1;equal 2 3 8;set 4 1;less 4 2 0;out 1;jump 2;copy 5 6;jump 4");
            x.fillAll(way % 3, (way % 3 + 1 + way / 3) % 3);
            for (int i = 0; i < x.entries(); i++) {
                int target = x.entry(i, 0) >= 8 && x.entry(i, 0) <= 10 ? x.entry(i, 3) : 0;
                boolean isRight = target == x.entries() || target < x.entries() && x.entry(target, 4) == 0;
                Check.same("the target " + target + " of " + Check.written(x), isRight ? 1 : 0, 1);
            }
        }
        BranchSlotFiller end = Check.expanded("jump 1");
        Check.same("the end", end.entry(0, 3), 2);
        Check.same("it ends", end.run(true, 2), 2);
    }

    private static void anExecutionOfTheExpandedFormBeginsWith0() {
        Check.sentence("An execution begins with entry 0");
        BranchSlotFiller x = Check.expanded("out 1;out 2");
        x.setInitial(false, 1, 1);
        x.setInitial(false, 2, 2);
        x.clear();
        Check.same("steps", x.run(true, 2), 2);
        Check.same("outputs", Check.outputs(x), "1 2");
    }

    private static void theConditionIsTestedBeforeTheSlot() {
        Check.sentence("A branch first tests its condition; then its slot is executed");
        BranchSlotFiller x = Check.expanded("equal 1 2 3;set 1 9;out 1;out 2");
        Check.same("fill", x.fill(0, 2), 0);
        Check.same("the form", Check.written(x), "equal 1 2 3|set 1 9;out 1;out 2");
        x.run(true, 9);
        Check.same("taken, though the slot makes them different", Check.outputs(x), "0");
        Check.same("the slot is executed", x.finalValue(false, 1), 9);
        x.setInitial(false, 2, 9);
        x.run(true, 9);
        Check.same("not taken, though the slot makes them equal", Check.outputs(x), "9 9");
    }

    private static void theSlotIsSkippedIfAnnullingAndNotTaken() {
        Check.sentence("Its slot is executed, unless the branch is annulling and not taken");
        BranchSlotFiller x = Check.expanded("equal 1 2 2;halt;out 3;halt");
        Check.same("fill", x.fill(0, 1), 0);
        Check.same("the form", Check.written(x), "equal* 1 2 4|out 3;halt;out 3;halt");
        Check.same("annulling and taken", x.run(true, 9), 3);
        Check.same("annulling and taken", Check.outputs(x), "0");
        x.setInitial(false, 1, 1);
        Check.same("annulling and not taken", x.run(true, 9), 2);
        Check.same("annulling and not taken", Check.outputs(x), "");
        BranchSlotFiller y = Check.expanded("out 3;equal 1 2 3;halt;halt");
        y.fill(1, 0);
        Check.same("the form", Check.written(y), "equal 1 2 3|out 3;halt;halt");
        Check.same("not annulling and taken", y.run(true, 9), 3);
        Check.same("not annulling and taken", Check.outputs(y), "0");
        y.setInitial(false, 1, 1);
        Check.same("not annulling and not taken", y.run(true, 9), 3);
        Check.same("not annulling and not taken", Check.outputs(y), "0");
    }

    private static void stepsAreCounted() {
        Check.sentence("Each instruction that is executed, halt included, is a step; the branch and its slot are two "
                + "steps, and a slot that is not executed is none");
        steps("halt", 1, 1);
        steps("nop", 1, 1);
        steps("jump 1", 1, 2);
        steps("jump 1;halt", 2, 3);
        steps("less 1 1 1", 1, 2);
        steps("equal 1 1 1;less 1 1 1;jump 3", 3, 6);
        BranchSlotFiller x = Check.expanded("less 1 2 1;out 3");
        x.fill(0, 1);
        Check.same("a slot that is not executed", x.run(true, 2), 2);
        Check.fails("2 steps are needed", Check.UNSUPPORTED, () -> x.run(true, 1));
        x.setInitial(false, 2, 1);
        Check.same("a slot that is executed", x.run(true, 2), 2);
        Check.fails("2 steps are needed", Check.UNSUPPORTED, () -> x.run(true, 1));
    }

    private static void steps(String text, int source, int form) {
        BranchSlotFiller x = Check.expanded(text);
        Check.same("steps of " + text, x.run(false, source), source);
        Check.same("steps of the expanded form of " + text, x.run(true, form), form);
        if (form > 1) {
            Check.fails("fewer steps of " + text, Check.UNSUPPORTED, () -> x.run(true, form - 1));
        }
    }

    /** The registers that are live before each entry, with a line for a slot, and at the end. */
    private static void lives(BranchSlotFiller x, String due) {
        StringBuilder text = new StringBuilder();
        for (int i = 0; i < x.entries(); i++) {
            text.append(x.entry(i, 4) == 1 ? "-" : Integer.toString(x.live(i))).append(' ');
        }
        text.append(x.live(x.entries()));
        Check.same("live registers of " + Check.written(x), text.toString(), due);
    }

    private static void bothWaysOfAConditionalBranchCount() {
        Check.sentence("if each conditional branch could be taken or not, whatever the values are");
        lives(Check.expanded("equal 1 1 2;halt;out 3"), "10 - 0 8 0");
        lives(Check.expanded("equal 1 1 2;out 4;halt"), "18 - 16 0 0");
        lives(Check.expanded("less 1 1 2;halt;out 3"), "10 - 0 8 0");
        lives(Check.expanded("less 1 1 2;out 4;halt"), "18 - 16 0 0");
        lives(Check.expanded("set 1 1;set 2 2;less 1 2 4;out 7"), "128 130 134 - 128 0");
        Check.sentence("count(4): that no execution could reach if each conditional branch could be taken or not");
        Check.same("the way that is never gone", Check.expanded("equal 1 1 2;out 1;halt").count(4), 0);
        Check.same("the target that is never gone to", Check.expanded("less 1 1 2;halt;out 1").count(4), 0);
        Check.same("after halt", Check.expanded("halt;out 1").count(4), 1);
        Check.same("after jump, where slots are not counted", Check.expanded("jump 2;jump 0;halt").count(4), 1);
        Check.same("a form without entries", new BranchSlotFiller().count(4), 0);
    }

    private static void aJumpHasOneWay() {
        Check.sentence("The kinds 8 and 9 are conditional branches");
        lives(Check.expanded("jump 2;out 3;out 4"), "16 - 24 16 0");
        lives(Check.expanded("jump 2;out 3;halt"), "0 - 8 0 0");
        Check.same("equal", Check.expanded("equal 1 2 2;set 3 1;halt").candidate(0, 2), 2);
        Check.same("less", Check.expanded("less 1 2 2;set 3 1;halt").candidate(0, 2), 2);
        Check.fails("jump", Check.NO_ELEMENT, () -> Check.expanded("jump 2;set 3 1;halt").candidate(0, 2));
    }

    private static void haltHasNoWay() {
        Check.sentence("a sequence of entries that an execution could go through from there");
        lives(Check.expanded("halt;out 1"), "0 2 0");
        lives(Check.expanded("nop;halt;out 1"), "0 0 2 0");
        lives(Check.expanded("jump 0"), "0 - 0");
        lives(Check.expanded("nop;jump 0"), "0 0 - 0");
        lives(Check.expanded("out 7;jump 0"), "128 128 - 0");
        lives(Check.expanded("set 0 1;out 0;less 1 2 0"), "6 7 6 - 0");
    }

    /** 10 branches, the first one of which goes to the last one; from there the way leads back to the second one. */
    private static String back(String second) {
        return "jump 9;" + second + ";jump 1;jump 2;jump 3;jump 4;jump 5;jump 6;jump 7;jump 8";
    }

    private static void aWayCanBeLong() {
        Check.sentence("a sequence of entries that an execution could go through from there, however long it is");
        BranchSlotFiller x = Check.parsed(back("jump 10"));
        Check.parse(x, back("jump 10"));
        Check.parse(x, back("out 3"));
        Check.same("entries", x.expand(), 59);
        for (int i = 0; i < 59; i++) {
            if (x.entry(i, 4) == 0) {
                Check.same("live before " + i, x.live(i), 8);
            }
        }
        Check.same("all entries can be reached", x.count(4), 0);
        BranchSlotFiller z = Check.parsed(back("jump 10"));
        Check.parse(z, back("jump 10"));
        Check.parse(z, back("equal 4 5 10"));
        Check.same("the most entries", z.expand(), 60);
        for (int i = 0; i < 60; i += 2) {
            Check.same("live before " + i, z.live(i), 48);
        }
        Check.same("all of 60 entries can be reached", z.count(4), 0);
        BranchSlotFiller y = Check.parsed(back("jump 10"));
        Check.parse(y, back("less 1 2 10"));
        Check.parse(y, back("halt"));
        y.expand();
        for (int i = 0; i < 59; i++) {
            if (y.entry(i, 4) == 0) {
                Check.same("live before " + i, y.live(i), i < 40 ? 6 : 0);
            }
        }
        Check.same("all but those after halt can be reached", y.count(4), 0);
        x.clear();
        Check.parse(x, back("jump 9"));
        Check.parse(x, back("out 3"));
        x.expand();
        Check.same("no entry of the second text, nor the end, can be reached", x.count(4), 10);
        Check.same("no register is live", x.live(0), 0);
    }

    private static void theBranchReadsBeforeItsSlotWrites() {
        Check.sentence("A branch first tests its condition; then its slot is executed (for liveness)");
        BranchSlotFiller x = Check.expanded("less 1 2 2;halt;set 1 5;set 2 5");
        x.fill(0, 1);
        Check.same("an annulled slot", Check.written(x), "less* 1 2 4|set 1 5;halt;set 1 5;set 2 5");
        lives(x, "6 - 0 0 0 0");
        BranchSlotFiller y = Check.expanded("equal 1 2 2;set 2 9");
        y.fill(0, 2);
        Check.same("a slot on both ways", Check.written(y), "equal 1 2 2|set 2 9");
        lives(y, "6 - 0");
    }

    private static void theSlotLiesOnTheWay() {
        Check.sentence("in which the register is read by an instruction that is executed");
        BranchSlotFiller jump = Check.expanded("jump 1;out 3");
        jump.fill(0, 1);
        lives(jump, "8 - 8 0");
        BranchSlotFiller less = Check.expanded("less 1 2 2;set 3 1;copy 3 4;out 3");
        less.fill(0, 2);
        Check.same("the slot writes on both ways", Check.written(less), "less 1 2 2|set 3 1;copy 3 4;out 3");
        lives(less, "22 - 16 8 0");
        BranchSlotFiller read = Check.expanded("less 1 2 2;copy 5 3;out 5");
        Check.fails("a register that is live at the target", Check.NO_ELEMENT, () -> read.fill(0, 2));
        read.fill(0, 1);
        Check.same("the form", Check.written(read), "less* 1 2 4|out 5;copy 5 3;out 5");
        lives(read, "46 - 8 32 0");
    }

    private static void aRegisterIsReadBeforeItIsWritten() {
        Check.sentence("and is not written by one before");
        lives(Check.expanded("copy 1 1"), "2 0");
        lives(Check.expanded("add 1 1 2"), "6 0");
        lives(Check.expanded("sub 1 2 1"), "6 0");
        lives(Check.expanded("load 1 1 0"), "2 0");
        lives(Check.expanded("store 1 1 0"), "2 0");
        lives(Check.expanded("set 1 1;out 1"), "0 2 0");
        lives(Check.expanded("load 1 2 0;out 1"), "4 2 0");
        lives(Check.expanded("copy 1 2;out 1"), "4 2 0");
        lives(Check.expanded("store 1 2 1;out 1"), "6 2 0");
        lives(Check.expanded("set 7 1;set 0 1;add 3 0 7;out 3"), "0 128 129 8 0");
    }

    private static void atTheEndNoRegisterIsLive() {
        Check.sentence("At the end no register is live");
        Check.same("of no entries", new BranchSlotFiller().live(0), 0);
        Check.same("after an out", Check.expanded("out 1").live(1), 0);
        Check.same("after a branch", Check.expanded("equal 1 2 0").live(2), 0);
        lives(Check.expanded("equal 1 2 2;out 3"), "14 - 8 0");
        BranchSlotFiller x = Check.expanded("nop;nop;out 1;out 2;out 3");
        x.clear();
        Check.parse(x, "nop;nop");
        x.expand();
        Check.same("where an earlier form had an out", x.live(2), 0);
        Check.same("before the end", x.live(1), 0);
    }
}
