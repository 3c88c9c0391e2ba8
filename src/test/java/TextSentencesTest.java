/** The sentences of Texts and Details that name a boundary case: each one has a test of its own, which begins with it. */
final class TextSentencesTest {
    public static void main(String[] args) {
        aTextIsAListOrNothing();
        oneSpaceStandsBeforeAnOperand();
        anOperandIsOneOrTwoDigits();
        aMinusSignStandsBeforeCOfSetOnly();
        theErrorIsTheFirstCharacterThatCannotContinue();
        theErrorIsTheLengthIfTheTextEndsTooEarly();
        theErrorOfANameIsItsFirstCharacter();
        aNameIsAllLettersThatStandThere();
        aWrittenTextIsWrittenInTheSameWay();
        aSlotIsSeparatedByALine();
        anEmptyTextIsRight();
        aTargetStaysTheNumberThatItBecomes();
        numbersCanHaveZerosAtTheirBeginning();
        anOperandOutOfRangeComesFirst();
        theTargetItselfCanBeTheCandidate();
        livenessIsAskedInTheFormAsItIs();
        anAnnulledSlotLiesOnTheTakenWayAlone();
        anEntryIsIndependentOfItselfByTheSameWords();
        aCallThatSucceedsIsAChange();
        olderChangesAreForgotten();
        theExpandedFormStaysWhenTheSourceIsEmptied();
        outputAndFinalValuesStay();
        anExecutionThatEndsWithItsStep300HasEnded();
        theStarStandsBehindTheName();
        Check.finish();
    }

    /** Parses a text that is right, and looks at the instructions by writing them. */
    private static void right(String text, String due) {
        BranchSlotFiller x = new BranchSlotFiller();
        int number = Check.parse(x, text);
        Check.same("parse \"" + text + "\"", number, x.instructions());
        x.expand();
        Check.same("written after \"" + text + "\"", Check.written(x), due);
    }

    private static void wrong(String text, int position) {
        BranchSlotFiller x = new BranchSlotFiller();
        Check.same("parse \"" + text + "\"", Check.parse(x, text), -100 - position);
        Check.same("instructions after \"" + text + "\"", x.instructions(), 0);
    }

    private static void aTextIsAListOrNothing() {
        Check.sentence("a list of instructions with a semicolon between two of them, or nothing");
        right("", "");
        right("nop", "nop");
        right("nop;nop", "nop;nop");
        right("out 1;halt;out 2;jump 1", "out 1;halt;out 2;jump 1|nop");
        wrong(";", 0);
        wrong("nop;", 4);
        wrong(";nop", 0);
        wrong("nop;;nop", 4);
        wrong("nop nop", 3);
        wrong("nop,nop", 3);
        wrong("nop|nop", 3);
        wrong("nop\nnop", 3);
        wrong("out 1 ;nop", 5);
        wrong("out 1; nop", 6);
        wrong(" ", 0);
    }

    private static void oneSpaceStandsBeforeAnOperand() {
        Check.sentence("its name, followed by its operands in the order given, each with one space before it");
        right("add 1 2 3", "add 1 2 3");
        wrong("add  1 2 3", 4);
        wrong("add 1  2 3", 6);
        wrong("add1 2 3", 3);
        wrong("add 1,2 3", 5);
        wrong("add\t1 2 3", 3);
        wrong("add 1 2 3 ", 9);
        wrong("add 1 2 3 4", 9);
        wrong("set 1  5", 6);
        wrong("copy 1 2 3", 8);
        wrong("nop ", 3);
        wrong("nop 1", 3);
        wrong("halt ", 4);
        wrong("jump 1 ", 6);
    }

    private static void anOperandIsOneOrTwoDigits() {
        Check.sentence("an operand is one or two digits");
        right("set 0 9", "set 0 9");
        right("set 0 10", "set 0 10");
        right("set 0 99", "set 0 99");
        right("load 0 0 15", "load 0 0 15");
        wrong("set 0 100", 8);
        wrong("set 0 000", 8);
        wrong("set 000 1", 6);
        wrong("out 100", 6);
        wrong("load 0 0 015", 11);
        wrong("jump 001", 7);
        wrong("out /", 4);
        wrong("out :", 4);
        wrong("out 1/", 5);
        wrong("out 1:", 5);
        wrong("out a", 4);
        wrong("out 1a", 5);
        wrong("out \u0661", 4);
        wrong("out +1", 4);
    }

    private static void aMinusSignStandsBeforeCOfSetOnly() {
        Check.sentence("with a minus sign before them for c of set only, where it may be missing");
        right("set 0 -1", "set 0 -1");
        right("set 0 -10", "set 0 -10");
        right("set 0 -99", "set 0 -99");
        right("set 0 1", "set 0 1");
        wrong("set 0 --1", 7);
        wrong("set 0 - 1", 7);
        wrong("set 0 -", 7);
        wrong("set 0 -a", 7);
        wrong("set 0 -;nop", 7);
        wrong("set 0 1-", 7);
        wrong("set 0 1-1", 7);
        wrong("set 0 -100", 9);
        wrong("set -0 1", 4);
        wrong("copy 1 -2", 7);
        wrong("add 1 2 -3", 8);
        wrong("sub 1 -2 3", 6);
        wrong("load 1 2 -3", 9);
        wrong("store 1 2 -3", 10);
        wrong("out -1", 4);
        wrong("equal 1 2 -0", 10);
        wrong("less 1 2 -0", 9);
        wrong("jump -0", 5);
    }

    private static void theErrorIsTheFirstCharacterThatCannotContinue() {
        Check.sentence("The error position is the offset, from 0, of the first character that cannot continue such a text");
        wrong("nop!", 3);
        wrong("nop;out 1;set 1 x;out y", 16);
        wrong("out 9;out 1 1", 11);
        String most = Check.repeated("nop", ";", 29) + ";";
        wrong(most + "nop,", 119);
        wrong(Check.repeated("\u0000", "", 120), 0);
        wrong("\uffff", 0);
        wrong("nop\uffff", 3);
    }

    private static void theErrorIsTheLengthIfTheTextEndsTooEarly() {
        Check.sentence("or the length of the text if it ends too early");
        wrong("set", 3);
        wrong("set ", 4);
        wrong("set 1", 5);
        wrong("set 12", 6);
        wrong("set 1 ", 6);
        wrong("set 1 -", 7);
        wrong("jump", 4);
        wrong("jump ", 5);
        wrong("less 1 2", 8);
        wrong("nop;", 4);
        wrong("nop;add 1 2 ", 12);
        wrong(Check.repeated("nop", ";", 30) + ";", 120);
        wrong(Check.repeated("nop", ";", 29) + ";out", 119);
    }

    private static void theErrorOfANameIsItsFirstCharacter() {
        Check.sentence("for a name that is none it is the offset of its first character, also if no letter stands there");
        wrong("mov 1 2", 0);
        wrong("nop;mov 1 2", 4);
        wrong("nop;1", 4);
        wrong("nop; ", 4);
        wrong("nop;*", 4);
        wrong("1", 0);
        wrong("NOP", 0);
        wrong("Nop", 0);
        wrong("`nop", 0);
        wrong("{nop", 0);
        wrong("*", 0);
        wrong(Check.repeated("a", "", 120), 0);
    }

    private static void aNameIsAllLettersThatStandThere() {
        Check.sentence("a name that is none, which is as many of the letters a to z as stand there");
        wrong("nopa", 0);
        wrong("nopz", 0);
        wrong("no", 0);
        wrong("n", 0);
        wrong("no p", 0);
        wrong("setcopy 1 2", 0);
        wrong("noop", 0);
        wrong("nop`", 3);
        wrong("nop{", 3);
        wrong("nopN", 3);
        wrong("out\u00e9", 3);
        wrong("nop;ha", 4);
        wrong("nop;haltt", 4);
        wrong("nop;halt1", 8);
    }

    private static void aWrittenTextIsWrittenInTheSameWay() {
        Check.sentence("the instructions are written in the same way");
        String text = "nop;set 7 -99;set 0 99;set 1 0;set 1 -1;set 1 10;set 1 -10;set 1 9;copy 7 0;out 7;halt";
        right(text, text);
        String more = "add 0 1 2;sub 7 6 5;load 1 2 0;load 1 2 9;load 1 2 10;load 1 2 15;store 0 7 15";
        right(more, more);
        BranchSlotFiller x = Check.parsed(Check.repeated("nop", ";", 20));
        Check.parse(x, "equal 1 2 0;less 3 4 2;jump 1;jump 4");
        x.expand();
        String due = Check.repeated("nop", ";", 20) + ";equal 1 2 20|nop;less 3 4 24|nop;jump 22|nop;jump 28|nop";
        Check.same("targets", Check.written(x), due);
        Check.same("nothing", Check.written(new BranchSlotFiller()), "");
    }

    private static void aSlotIsSeparatedByALine() {
        Check.sentence("the entries are separated by semicolons, but a slot is separated from its branch by |");
        right("jump 1", "jump 2|nop");
        right("halt;jump 0", "halt;jump 0|nop");
        right("jump 1;jump 0;halt", "jump 2|nop;jump 0|nop;halt");
        BranchSlotFiller x = Check.expanded("out 1;jump 2");
        x.fill(1, 0);
        Check.same("a slot that is filled", Check.written(x), "jump 2|out 1");
    }

    private static void anEmptyTextIsRight() {
        Check.sentence("An empty text is right and has no instructions");
        BranchSlotFiller x = new BranchSlotFiller();
        Check.same("an empty source", x.parse(), 0);
        Check.same("instructions", x.instructions(), 0);
        Check.parse(x, Check.repeated("nop", ";", 30));
        Check.same("a full source", x.parse(), 0);
        Check.same("instructions", x.instructions(), 30);
    }

    private static void aTargetStaysTheNumberThatItBecomes() {
        Check.sentence("The target in a text stays the number that it becomes, also if it was the end of the source then "
                + "and the source grows");
        BranchSlotFiller x = Check.parsed("nop;jump 2");
        Check.parse(x, "jump 1");
        Check.parse(x, "out 1;less 1 2 2");
        Check.same("the end of the first text", x.instruction(1, 3), 2);
        Check.same("the end of the second text", x.instruction(2, 3), 3);
        Check.same("the end of the third text", x.instruction(4, 3), 5);
        x.expand();
        Check.same("the form", Check.written(x), "nop;jump 3|nop;jump 5|nop;out 1;less 1 2 8|nop");
        Check.same("the steps", x.run(false, 9), 5);
    }

    private static void numbersCanHaveZerosAtTheirBeginning() {
        Check.sentence("Numbers in texts can have zeros at their beginning, and -0 is 0");
        right("set 01 05", "set 1 5");
        right("set 00 00", "set 0 0");
        right("set 1 -05", "set 1 -5");
        right("set 1 -0", "set 1 0");
        right("set 1 -00", "set 1 0");
        right("add 07 00 01", "add 7 0 1");
        right("load 01 02 09", "load 1 2 9");
        right("jump 01", "jump 2|nop");
        right("jump 00", "jump 0|nop");
        BranchSlotFiller x = Check.parsed("set 1 -0;copy 02 03");
        Check.same("-0", Check.instruction(x, 0), "1 1 0 0");
        Check.same("02 03", Check.instruction(x, 1), "2 2 3 0");
    }

    private static void anOperandOutOfRangeComesFirst() {
        Check.sentence("an operand that is out of range is looked at ahead of the number of instructions");
        BranchSlotFiller x = Check.parsed(Check.repeated("nop", ";", 30));
        for (String text : new String[] {"out 8", "nop;copy 0 8", "load 0 0 16", "jump 2"}) {
            Check.feed(x, text);
            Check.fails("parse \"" + text + "\"", Check.ARGUMENT, x::parse);
        }
        Check.feed(x, "out 7");
        Check.fails("parse \"out 7\"", Check.STATE, x::parse);
        Check.same("a syntax error is looked at first", Check.parse(x, "out 8;"), -106);
        BranchSlotFiller y = Check.parsed(Check.repeated("nop", ";", 29));
        Check.feed(y, "jump 1;jump 3");
        Check.fails("parse \"jump 1;jump 3\"", Check.ARGUMENT, y::parse);
        Check.feed(y, "jump 1;jump 2");
        Check.fails("parse \"jump 1;jump 2\"", Check.STATE, y::parse);
    }

    private static void theTargetItselfCanBeTheCandidate() {
        Check.sentence("In way 0, the entry that is the target of a branch can itself be the candidate; the branches that "
                + "went to it go to the entry that follows then");
        BranchSlotFiller x = Check.expanded("set 1 1;equal 2 3 0");
        Check.same("candidate", x.candidate(1, 0), 0);
        Check.same("fill", x.fill(1, 0), 0);
        Check.same("the branch goes to itself", Check.written(x), "equal 2 3 0|set 1 1");
        Check.same("its entry", Check.entry(x, 0), "8 2 3 0 0 0 1");
        BranchSlotFiller y = Check.expanded("jump 4;jump 4;less 1 2 4;nop;set 3 1;nop;jump 4;out 3");
        Check.same("candidate", y.candidate(9, 0), 7);
        Check.same("fill", y.fill(9, 0), 8);
        Check.same("all four go to the nop", Check.written(y),
                "jump 7|nop;jump 7|nop;less 1 2 7|nop;nop;nop;jump 7|set 3 1;out 3");
        Check.same("branches to it", y.entry(7, 6), 4);
    }

    private static void livenessIsAskedInTheFormAsItIs() {
        Check.sentence("Liveness is asked in the form as it is");
        // The candidate stands in its place still, so that it writes the register before it is read.
        BranchSlotFiller x = Check.expanded("equal 1 2 0;copy 3 4;out 3");
        Check.same("live", x.live(0), 22);
        Check.same("candidate", x.candidate(0, 2), 2);
        BranchSlotFiller y = Check.expanded("equal 1 2 0;add 3 3 4;out 3");
        Check.same("live", y.live(0), 30);
        Check.fails("candidate", Check.NO_ELEMENT, () -> y.candidate(0, 2));
        x.clear();
        Check.parse(x, "out 3");
        Check.same("live, whatever the source is", x.live(0), 22);
        Check.same("candidate, whatever the source is", x.candidate(0, 2), 2);
        x.expand();
        Check.same("live in a new form", x.live(0), 8);
        x.undo();
        Check.same("live in the earlier form", x.live(0), 22);
        x.fill(0, 2);
        Check.same("live after fill", x.live(0), 22);
        Check.same("live at the entry that has come nearer", x.live(2), 8);
    }

    private static void anAnnulledSlotLiesOnTheTakenWayAlone() {
        Check.sentence("At an annulling branch the slot lies on the taken way alone");
        BranchSlotFiller x = Check.expanded("less 1 2 2;out 3;set 3 1;halt");
        x.fill(0, 1);
        Check.same("the form", Check.written(x), "less* 1 2 4|set 3 1;out 3;set 3 1;halt");
        Check.same("the slot does not write on the other way", x.live(0), 14);
        BranchSlotFiller y = Check.expanded("less 1 2 3;set 3 1;halt;out 3");
        y.fill(0, 1);
        Check.same("the form", Check.written(y), "less* 1 2 5|out 3;set 3 1;halt;out 3");
        Check.same("the slot reads on the taken way", y.live(0), 14);
        BranchSlotFiller z = Check.expanded("less 1 2 2;halt;set 3 1;out 3");
        z.fill(0, 1);
        Check.same("the form", Check.written(z), "less* 1 2 4|set 3 1;halt;set 3 1;out 3");
        Check.same("the slot writes on the taken way", z.live(0), 6);
        BranchSlotFiller w = Check.expanded("set 3 1;less 1 2 3;out 3;halt");
        w.fill(1, 0);
        Check.same("the form", Check.written(w), "less 1 2 3|set 3 1;out 3;halt");
        Check.same("a slot that is not annulled writes on both", w.live(0), 6);
    }

    private static void anEntryIsIndependentOfItselfByTheSameWords() {
        Check.sentence("An entry is independent of itself by the same words");
        String[] texts = {"nop", "equal 1 2 0", "less 1 1 0", "jump 0", "halt", "set 1 1", "copy 1 2", "copy 1 1",
            "add 1 2 3", "sub 1 2 3", "load 1 2 3", "store 1 2 3", "out 1"};
        for (int k = 0; k < texts.length; k++) {
            BranchSlotFiller x = Check.expanded(texts[k]);
            Check.same(texts[k] + " and itself", x.isIndependent(0, 0) ? 1 : 0, k < 5 ? 1 : 0);
        }
        BranchSlotFiller slot = Check.expanded("jump 1");
        Check.same("a slot and itself", slot.isIndependent(1, 1) ? 1 : 0, 1);
    }

    private static void aCallThatSucceedsIsAChange() {
        Check.sentence("A call that succeeds is a change also if nothing is different");
        BranchSlotFiller x = new BranchSlotFiller();
        x.expand();
        x.expand();
        x.fillAll(0, 1);
        Check.same("undo of fillAll of nothing", x.undo(), 2);
        Check.same("undo of expand of nothing", x.undo(), 1);
        Check.same("undo of expand of nothing", x.undo(), 0);
        Check.fails("no more", Check.STATE, x::undo);
        BranchSlotFiller y = Check.expanded("nop;jump 2");
        Check.fails("a fill that throws is none", Check.NO_ELEMENT, () -> y.fill(1, 0));
        Check.fails("a fillAll that throws is none", Check.ARGUMENT, () -> y.fillAll(1, 1));
        Check.same("undo of expand", y.undo(), 0);
        Check.fails("no more", Check.STATE, y::undo);
    }

    private static void olderChangesAreForgotten() {
        Check.sentence("older changes are forgotten for good");
        BranchSlotFiller x = new BranchSlotFiller();
        for (int i = 1; i <= 9; i++) {
            Check.parse(x, "nop");
            Check.same("expand", x.expand(), i);
        }
        for (int i = 7; i >= 0; i--) {
            Check.same("undo", x.undo(), i);
        }
        Check.same("the form after the 1st change", x.entries(), 1);
        Check.fails("the 1st change", Check.STATE, x::undo);
        x.expand();
        Check.same("undo of a new change", x.undo(), 0);
        Check.fails("the 1st change", Check.STATE, x::undo);
        Check.same("its form stays", x.entries(), 1);
    }

    private static void theExpandedFormStaysWhenTheSourceIsEmptied() {
        Check.sentence("When the source is emptied, the expanded form stays");
        BranchSlotFiller x = Check.expanded("out 1;jump 2");
        x.clear();
        Check.same("the form", Check.written(x), "out 1;jump 3|nop");
        Check.same("it can be filled", x.fill(1, 0), 0);
        Check.same("it can be executed", x.run(true, 2), 2);
        Check.same("the source has nothing", x.run(false, 2), 0);
        Check.same("the change is taken back", x.undo(), 1);
        Check.same("the form", Check.written(x), "out 1;jump 3|nop");
    }

    private static void outputAndFinalValuesStay() {
        Check.sentence("the output and final values stay through changes of any kind");
        BranchSlotFiller x = Check.expanded("set 1 9;jump 2;out 1;store 1 2 5");
        x.save();
        x.run(true, 9);
        kept(x, "run");
        Check.parse(x, "out 2");
        kept(x, "parse");
        x.fill(1, 0);
        kept(x, "fill");
        x.fillAll(1, 0);
        kept(x, "fillAll");
        x.undo();
        kept(x, "undo");
        x.setInitial(false, 1, 3);
        x.setInitial(true, 5, 3);
        kept(x, "setInitial");
        x.write();
        kept(x, "write");
        x.differences(5, 50);
        kept(x, "differences");
        x.meanSteps(5, 50);
        kept(x, "meanSteps");
        x.save();
        x.restore();
        kept(x, "restore");
        x.clear();
        kept(x, "clear");
        x.expand();
        kept(x, "expand");
        Check.fails("a run that throws", Check.ARGUMENT, () -> x.run(true, 0));
        kept(x, "a run that throws");
    }

    private static void kept(BranchSlotFiller x, String call) {
        Check.same("outputs after " + call, Check.outputs(x), "9");
        Check.same("register 1 after " + call, x.finalValue(false, 1), 9);
        Check.same("register 2 after " + call, x.finalValue(false, 2), 0);
        Check.same("cell 5 after " + call, x.finalValue(true, 5), 9);
    }

    /** 3 steps, and then a loop of some rounds: 3 steps each in the source, and 4 in the expanded form. */
    private static String rounds(int rounds) {
        return "set 1 0;set 2 1;set 3 " + rounds + ";add 1 1 2;nop;less 1 3 3";
    }

    private static void different(String source, String form, int due) {
        BranchSlotFiller x = Check.expanded(form);
        x.clear();
        Check.parse(x, source);
        Check.same("differences of " + source + " and " + form, x.differences(1, 50), due);
    }

    private static void anExecutionThatEndsWithItsStep300HasEnded() {
        Check.sentence("An execution that ends with its 300th step has ended");
        Check.same("300 steps", Check.parsed(rounds(99)).run(false, 300), 300);
        different(rounds(99), "set 2 1;out 2", 50);
        different(rounds(99) + ";nop", "set 2 1;out 2", 0);
        different(rounds(99) + ";halt", "set 2 1;out 2", 0);
        Check.same("300 steps", Check.expanded(rounds(74) + ";nop").run(true, 300), 300);
        different("set 2 1;out 2", rounds(74) + ";nop", 50);
        different("set 2 1;out 2", rounds(74) + ";halt", 50);
        different("set 2 1;out 2", rounds(74) + ";nop;nop", 0);
        different("set 2 1;out 2", rounds(74) + ";nop;halt", 0);
        different(rounds(99), rounds(74) + ";out 2", 50);
        // The branch is the 300th step, and its slot the 301st, unless it is annulled.
        different("set 2 1;out 2", rounds(74) + ";jump 7", 0);
        different("set 2 1;out 2", rounds(74) + ";less 1 1 0", 0);
        BranchSlotFiller annulled = Check.expanded(rounds(74) + ";less 1 1 0");
        annulled.fill(7, 1);
        annulled.clear();
        Check.parse(annulled, "set 2 1;out 2");
        Check.same("a slot that is not executed", annulled.differences(1, 50), 50);
        different("jump 0", rounds(74) + ";out 2", 0);
        different(rounds(99), "jump 0", 0);
    }

    private static void theStarStandsBehindTheName() {
        Check.sentence("In a text that is written, the star stands directly behind the name");
        BranchSlotFiller x = Check.expanded("equal 1 2 1;out 1;less 3 4 0;jump 1");
        x.fillAll(1, 0);
        Check.same("the form", Check.written(x), "equal* 1 2 3|out 1;out 1;less 3 4 0|nop;jump 3|out 1");
        BranchSlotFiller y = Check.expanded("out 1;less 3 4 0");
        y.fill(1, 1);
        Check.same("the form", Check.written(y), "out 1;less* 3 4 1|out 1");
    }
}
