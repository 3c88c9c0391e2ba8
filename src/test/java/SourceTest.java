/** Promises 1 to 6: a new object, feed, parse, clear, instructions, instruction. */
final class SourceTest {
    public static void main(String[] args) {
        aNewObjectIsEmpty();
        feedCountsUpTo120();
        parseReadsEveryKind();
        parseTellsErrorPositions();
        parseTellsWrongNames();
        parseLooksAtRanges();
        parseLooksAtTheNumberOfInstructions();
        parseEmptiesTheBuffer();
        parseCountsTargetsFromItsText();
        clearEmptiesTheSourceAlone();
        instructionTellsParts();
        Check.finish();
    }

    private static void aNewObjectIsEmpty() {
        BranchSlotFiller x = new BranchSlotFiller();
        Check.same("new: instructions", x.instructions(), 0);
        Check.same("new: entries", x.entries(), 0);
        Check.same("new: write", x.write(), 0);
        Check.same("new: expand", x.expand(), 0);
        Check.same("new: count(0)", x.count(0), 0);
        Check.same("new: run(true, 10)", x.run(true, 10), 0);
        Check.same("new: outputs", x.outputs(), 0);
        Check.same("new: differences(1, 5)", x.differences(1, 5), 0);
        Check.same("new: live(0)", x.live(0), 0);
        Check.same("new: undo", x.undo(), 0);
        Check.same("new: write", x.write(), 0);
        BranchSlotFiller y = new BranchSlotFiller();
        Check.fails("new: restore", Check.STATE, y::restore);
        Check.fails("new: undo", Check.STATE, y::undo);
        Check.fails("new: outputs", Check.STATE, y::outputs);
        Check.fails("new: text(0)", Check.OUT_OF_BOUNDS, () -> y.text(0));
        for (int i = 0; i < 8; i++) {
            Check.same("new: register " + i, y.setInitial(false, i, 1), 0);
        }
        for (int i = 0; i < 16; i++) {
            Check.same("new: cell " + i, y.setInitial(true, i, 1), 0);
        }
    }

    private static void feedCountsUpTo120() {
        BranchSlotFiller x = new BranchSlotFiller();
        for (int i = 1; i <= 120; i++) {
            Check.same("feed " + i, x.feed((char) (i * 541)), i);
        }
        Check.fails("feed 121", Check.STATE, () -> x.feed('a'));
        Check.fails("feed 121 again", Check.STATE, () -> x.feed('a'));
        Check.same("parse of a full buffer", x.parse(), -100);
        Check.same("feed after parse", x.feed('n'), 1);

        BranchSlotFiller y = new BranchSlotFiller();
        Check.feed(y, "nop");
        Check.feed(y, Check.repeated(";nop", "", 29));
        Check.same("119 characters", y.feed(';'), 120);
        Check.same("the 120th character is read", y.parse(), -220);
    }

    private static void parseReadsEveryKind() {
        BranchSlotFiller x = new BranchSlotFiller();
        Check.same("the empty text", x.parse(), 0);
        Check.same("all kinds", Check.parse(x, "nop;set 1 -99;copy 2 3;add 4 5 6;sub 7 0 1;load 1 2 15;"
                + "store 3 4 0;out 5;equal 6 7 12;less 0 1 0;jump 11;halt"), 12);
        String[] due = {"0 0 0 0", "1 1 0 -99", "2 2 3 0", "3 4 5 6", "4 7 0 1", "5 1 2 15", "6 3 4 0", "7 5 0 0",
            "8 6 7 12", "9 0 1 0", "10 0 0 11", "11 0 0 0"};
        Check.same("instructions", x.instructions(), due.length);
        for (int i = 0; i < due.length; i++) {
            Check.same("instruction " + i, Check.instruction(x, i), due[i]);
        }
        same("set 3 99", "1 3 0 99");
        same("set 03 09", "1 3 0 9");
        same("set 3 -0", "1 3 0 0");
        same("set 3 -00", "1 3 0 0");
        same("set 3 -07", "1 3 0 -7");
        same("add 07 00 01", "3 7 0 1");
        same("load 0 0 05", "5 0 0 5");
        same("jump 01", "10 0 0 1");
    }

    private static void same(String text, String due) {
        BranchSlotFiller x = new BranchSlotFiller();
        Check.same("parse " + text, Check.parse(x, text), 1);
        Check.same(text, Check.instruction(x, 0), due);
    }

    private static void wrong(String text, int position) {
        BranchSlotFiller x = Check.expanded("out 1");
        Check.same("parse \"" + text + "\"", Check.parse(x, text), -100 - position);
        Check.same("instructions after \"" + text + "\"", x.instructions(), 1);
        Check.same("entries after \"" + text + "\"", x.entries(), 1);
        Check.same("the buffer after \"" + text + "\"", x.feed('a'), 1);
    }

    private static void parseTellsErrorPositions() {
        wrong("set 1", 5);
        wrong("set", 3);
        wrong("set ", 4);
        wrong("set 1 ", 6);
        wrong("set 1 -", 7);
        wrong("set 1 --1", 7);
        wrong("set -1 1", 4);
        wrong("set 1 +1", 6);
        wrong("set 1 123", 8);
        wrong("set 1 -123", 9);
        wrong("set 123 1", 6);
        wrong("set 1 1 ", 7);
        wrong("set 1 1 1", 7);
        wrong("set  1 1", 4);
        wrong("set1 1", 3);
        wrong("add 1 2 -3", 8);
        wrong("add 1 2", 7);
        wrong("load 1 2 -1", 9);
        wrong("jump -1", 5);
        wrong("nop 1", 3);
        wrong("nop*", 3);
        wrong("nop|nop", 3);
        wrong("jump* 1", 4);
        wrong("out 1,", 5);
        wrong("out 12;out 1 2", 12);
        wrong("out x", 4);
        wrong("out 1x", 5);
        wrong("out \u0661", 4);
        wrong("out 1\u0661", 5);
    }

    private static void parseTellsWrongNames() {
        wrong("mov 1 2", 0);
        wrong("no", 0);
        wrong("nops", 0);
        wrong("setx 1 1", 0);
        wrong("nop;", 4);
        wrong(";nop", 0);
        wrong("nop;;nop", 4);
        wrong("nop; nop", 4);
        wrong(" nop", 0);
        wrong("1", 0);
        wrong("Nop", 0);
        wrong("noP", 0);
        wrong("nopP", 3);
        wrong("nopz", 0);
        wrong("nopa", 0);
        wrong("nop`", 3);
        wrong("nop{", 3);
        wrong("nop;out 1;sett 1", 10);
        wrong("nop;out 1;", 10);
        wrong("\u00e9", 0);
    }

    private static void outOfRange(String text) {
        BranchSlotFiller x = Check.expanded("out 1");
        Check.feed(x, text);
        Check.fails("parse \"" + text + "\"", Check.ARGUMENT, x::parse);
        Check.same("instructions after \"" + text + "\"", x.instructions(), 1);
        Check.same("the buffer after \"" + text + "\"", x.feed('a'), 1);
    }

    private static void parseLooksAtRanges() {
        outOfRange("set 8 1");
        outOfRange("copy 8 0");
        outOfRange("copy 0 8");
        outOfRange("add 8 0 0");
        outOfRange("add 1 8 1");
        outOfRange("add 0 0 8");
        outOfRange("sub 8 0 0");
        outOfRange("sub 0 99 0");
        outOfRange("sub 0 0 8");
        outOfRange("load 8 0 0");
        outOfRange("load 0 8 0");
        outOfRange("load 1 2 16");
        outOfRange("store 8 0 0");
        outOfRange("store 0 8 0");
        outOfRange("store 0 0 16");
        outOfRange("out 08");
        outOfRange("equal 8 0 0");
        outOfRange("equal 0 8 0");
        outOfRange("equal 0 0 2");
        outOfRange("less 8 0 0");
        outOfRange("less 0 8 0");
        outOfRange("less 0 0 2");
        outOfRange("jump 2");
        outOfRange("nop;nop;jump 4");
        wrong("out 8;mov", 6);
        wrong("out 8;", 6);
    }

    private static void parseLooksAtTheNumberOfInstructions() {
        BranchSlotFiller x = new BranchSlotFiller();
        Check.same("30 instructions", Check.parse(x, Check.repeated("nop", ";", 30)), 30);
        Check.same("no instruction more", x.parse(), 0);
        Check.feed(x, "nop");
        Check.fails("31 instructions", Check.STATE, x::parse);
        Check.same("the buffer after it", x.feed('a'), 1);
        Check.same("a syntax error in a full source", x.parse(), -100);
        Check.feed(x, "out 8");
        Check.fails("out of range in a full source", Check.ARGUMENT, x::parse);
        Check.same("instructions", x.instructions(), 30);

        BranchSlotFiller y = Check.parsed(Check.repeated("nop", ";", 28));
        Check.feed(y, "nop;nop;nop");
        Check.fails("28 and 3", Check.STATE, y::parse);
        Check.same("28 stay", y.instructions(), 28);
        Check.same("28 and 2", Check.parse(y, "nop;jump 2"), 2);
        Check.same("30 then", y.instructions(), 30);
        Check.same("the target is the end", y.instruction(29, 3), 30);
    }

    private static void parseEmptiesTheBuffer() {
        BranchSlotFiller x = new BranchSlotFiller();
        Check.parse(x, "nop");
        Check.same("after a right text", x.parse(), 0);
        Check.parse(x, "nopx");
        Check.same("after an error", x.parse(), 0);
        Check.feed(x, "out 9");
        Check.fails("out 9", Check.ARGUMENT, x::parse);
        Check.same("after an exception", x.parse(), 0);
        Check.same("instructions", x.instructions(), 1);
    }

    private static void parseCountsTargetsFromItsText() {
        BranchSlotFiller x = Check.expanded("nop;jump 2");
        Check.parse(x, "equal 1 2 0;less 3 4 3;jump 1;set 1 1");
        Check.same("the expanded form stays", x.entries(), 3);
        Check.same("the old end", Check.instruction(x, 1), "10 0 0 2");
        Check.same("the first one", Check.instruction(x, 2), "8 1 2 2");
        Check.same("the last one", Check.instruction(x, 3), "9 3 4 5");
        Check.same("the second one", Check.instruction(x, 4), "10 0 0 3");
        Check.same("no target", Check.instruction(x, 5), "1 1 0 1");
    }

    private static void clearEmptiesTheSourceAlone() {
        BranchSlotFiller x = Check.expanded("set 1 5;out 1");
        x.run(false, 5);
        x.feed('n');
        Check.same("clear", x.clear(), 2);
        Check.same("instructions", x.instructions(), 0);
        Check.same("clear again", x.clear(), 0);
        Check.same("entries stay", x.entries(), 2);
        Check.same("the output stays", x.output(0), 5);
        Check.same("the final values stay", x.finalValue(false, 1), 5);
        Check.same("the buffer stays", x.feed('o'), 2);
        x.feed('p');
        Check.same("a new source", x.parse(), 1);
        Check.same("its instruction", Check.instruction(x, 0), "0 0 0 0");
        Check.same("a target is counted anew", Check.parse(x, "jump 0"), 1);
        Check.same("the target", x.instruction(1, 3), 1);
    }

    private static void instructionTellsParts() {
        BranchSlotFiller x = Check.parsed("store 1 2 3;jump 0");
        Check.same("instructions", x.instructions(), 2);
        Check.same("a store", Check.instruction(x, 0), "6 1 2 3");
        Check.same("a jump", Check.instruction(x, 1), "10 0 0 0");
        for (int i : new int[] {-1, 2, 30, Integer.MAX_VALUE, Integer.MIN_VALUE}) {
            Check.fails("instruction(" + i + ", 0)", Check.OUT_OF_BOUNDS, () -> x.instruction(i, 0));
            Check.fails("instruction(" + i + ", 9)", Check.OUT_OF_BOUNDS, () -> x.instruction(i, 9));
        }
        for (int what : new int[] {-1, 4, 5, Integer.MAX_VALUE, Integer.MIN_VALUE}) {
            Check.fails("instruction(1, " + what + ")", Check.ARGUMENT, () -> x.instruction(1, what));
        }
    }
}
