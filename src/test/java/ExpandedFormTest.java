/** Promises 7 to 12, 17 and 18: expand, entries, entry, count, live, isIndependent, write, text. */
final class ExpandedFormTest {
    public static void main(String[] args) {
        expandMakesSlots();
        expandForgetsWhatWasFilled();
        entryTellsParts();
        countCounts();
        countTellsUnreachableEntries();
        countLooksAtTheFormAlone();
        liveFollowsTheWays();
        liveForgetsEarlierForms();
        liveSeesSlots();
        liveTellsErrors();
        isIndependentLooksAtRegisters();
        isIndependentLooksAtMemoryAndOutput();
        writeWritesEveryKind();
        textStaysUntilTheNextWrite();
        Check.finish();
    }

    private static void expandMakesSlots() {
        BranchSlotFiller x = Check.parsed("jump 1;out 1");
        Check.same("before", x.entries(), 0);
        Check.same("expand", x.expand(), 3);
        Check.same("entries", x.entries(), 3);
        Check.same("the branch", Check.entry(x, 0), "10 0 0 2 0 0 0");
        Check.same("its slot", Check.entry(x, 1), "0 0 0 0 1 0 0");
        Check.same("the target", Check.entry(x, 2), "7 1 0 0 0 0 1");

        BranchSlotFiller all = Check.parsed(Check.repeated("jump 14", ";", 14));
        Check.parse(all, Check.repeated("jump 14", ";", 14));
        Check.parse(all, "jump 0;jump 2");
        Check.same("30 branches", all.expand(), 60);
        Check.same("a target after branches", all.entry(0, 3), 28);
        Check.same("an end that has grown", all.entry(26, 3), 28);
        Check.same("a target", all.entry(28, 3), 56);
        Check.same("a target backwards", all.entry(56, 3), 56);
        Check.same("the end", all.entry(58, 3), 60);
        all.clear();
        Check.same("an empty source", all.expand(), 0);
        Check.same("entries then", all.entries(), 0);
    }

    private static void expandForgetsWhatWasFilled() {
        BranchSlotFiller x = Check.expanded("set 1 1;equal 2 3 2;out 1");
        x.fill(1, 0);
        Check.same("filled", Check.written(x), "equal 2 3 2|set 1 1;out 1");
        Check.same("expand", x.expand(), 4);
        Check.same("as at first", Check.written(x), "set 1 1;equal 2 3 3|nop;out 1");
        x.fill(1, 1);
        x.expand();
        Check.same("not annulling", Check.written(x), "set 1 1;equal 2 3 3|nop;out 1");
    }

    private static void entryTellsParts() {
        BranchSlotFiller x = Check.expanded("store 1 2 3;equal 4 5 0;less 6 7 0;jump 4;halt");
        Check.same("a store", Check.entry(x, 0), "6 1 2 3 0 0 2");
        Check.same("an equal", Check.entry(x, 1), "8 4 5 0 0 0 0");
        Check.same("a less", Check.entry(x, 3), "9 6 7 0 0 0 0");
        Check.same("a jump", Check.entry(x, 5), "10 0 0 7 0 0 0");
        Check.same("a slot", Check.entry(x, 6), "0 0 0 0 1 0 0");
        Check.same("a halt", Check.entry(x, 7), "11 0 0 0 0 0 1");
        x.fill(1, 1);
        Check.same("an annulling branch", Check.entry(x, 1), "8 4 5 1 0 1 1");
        Check.same("its slot", Check.entry(x, 2), "6 1 2 3 1 0 0");
        Check.same("one target less", x.entry(0, 6), 1);
        for (int i : new int[] {-1, 8, 60, Integer.MAX_VALUE, Integer.MIN_VALUE}) {
            Check.fails("entry(" + i + ", 0)", Check.OUT_OF_BOUNDS, () -> x.entry(i, 0));
            Check.fails("entry(" + i + ", 7)", Check.OUT_OF_BOUNDS, () -> x.entry(i, 7));
        }
        for (int what : new int[] {-1, 7, Integer.MAX_VALUE, Integer.MIN_VALUE}) {
            Check.fails("entry(0, " + what + ")", Check.ARGUMENT, () -> x.entry(0, what));
        }
    }

    private static void countCounts() {
        BranchSlotFiller x = Check.expanded("nop;set 1 1;equal 1 2 5;less 2 1 1;jump 6;out 1");
        counts(x, "3 3 0 4 0");
        x.fill(4, 1);
        counts(x, "3 2 1 3 0");
        x.fill(2, 1);
        counts(x, "3 1 2 2 1");
        for (int what : new int[] {-1, 5, Integer.MAX_VALUE, Integer.MIN_VALUE}) {
            Check.fails("count(" + what + ")", Check.ARGUMENT, () -> x.count(what));
        }
    }

    private static void counts(BranchSlotFiller x, String due) {
        StringBuilder text = new StringBuilder();
        for (int what = 0; what < 5; what++) {
            text.append(what == 0 ? "" : " ").append(x.count(what));
        }
        Check.same("counts", text.toString(), due);
    }

    private static void countTellsUnreachableEntries() {
        unreachable("", 0);
        unreachable("halt", 0);
        unreachable("halt;nop;nop", 2);
        unreachable("jump 2;out 1;out 2", 1);
        unreachable("equal 1 1 2;out 1;out 2", 0);
        unreachable("jump 0;jump 2;jump 1", 2);
        unreachable("jump 3;out 1;jump 4;jump 1", 0);
        unreachable("jump 4;out 1;jump 4;jump 1", 3);
        unreachable("less 1 2 2;halt;halt;out 1", 1);
        unreachable("jump 7;halt;out 1;halt;less 1 2 2;halt;halt;equal 1 2 4;jump 9", 2);
        unreachable("jump 4;halt;jump 6;halt;less 1 2 2;halt;out 1", 2);
        unreachable("jump 5;nop;halt;jump 1;halt;equal 1 2 3;jump 3", 1);
        unreachable("jump 4;out 1;halt;halt;less 1 2 1;jump 3", 0);
    }

    private static void countLooksAtTheFormAlone() {
        BranchSlotFiller x = Check.parsed(Check.repeated("jump 14", ";", 14));
        Check.parse(x, Check.repeated("jump 14", ";", 14));
        Check.parse(x, "jump 0;jump 2");
        x.expand();
        counts(x, "30 30 0 30 27");
        Check.same("targets in a full form", x.entry(28, 6), 14);
        x.clear();
        Check.parse(x, "out 1;less 1 2 0");
        x.expand();
        x.fill(1, 1);
        counts(x, "1 0 1 0 0");
        x.clear();
        x.expand();
        counts(x, "0 0 0 0 0");
        Check.parse(x, "out 1");
        x.expand();
        counts(x, "0 0 0 0 0");
        Check.same("no branch goes there any more", x.entry(0, 6), 0);
    }

    private static void unreachable(String text, int due) {
        BranchSlotFiller x = new BranchSlotFiller();
        Check.parse(x, text);
        x.expand();
        Check.same("unreachable in " + text, x.count(4), due);
    }

    private static void lives(BranchSlotFiller x, String due) {
        StringBuilder text = new StringBuilder();
        for (int i = 0; i <= x.entries(); i++) {
            boolean isSlot = i < x.entries() && x.entry(i, 4) == 1;
            text.append(i == 0 ? "" : " ").append(isSlot ? "-" : Integer.toString(x.live(i)));
        }
        Check.same("live registers", text.toString(), due);
    }

    private static void liveFollowsTheWays() {
        lives(Check.expanded("out 0;out 1;halt;out 2"), "3 2 0 4 0");
        lives(Check.expanded("nop;set 3 1;out 3"), "0 0 8 0");
        lives(Check.expanded("copy 1 2;out 1"), "4 2 0");
        lives(Check.expanded("copy 1 1;out 1"), "2 2 0");
        lives(Check.expanded("add 1 2 3;out 1"), "12 2 0");
        lives(Check.expanded("sub 1 2 2;out 7"), "132 128 0");
        lives(Check.expanded("add 1 1 1"), "2 0");
        lives(Check.expanded("load 1 2 3"), "4 0");
        lives(Check.expanded("store 1 2 3"), "6 0");
        lives(Check.expanded("equal 1 2 2;out 3;out 4"), "30 - 24 16 0");
        lives(Check.expanded("less 1 1 2;set 3 1;out 3"), "10 - 0 8 0");
        lives(Check.expanded("jump 2;out 3;out 4"), "16 - 24 16 0");
        lives(Check.expanded("jump 0"), "0 - 0");
        lives(Check.expanded("set 1 5;set 2 1;add 3 3 1;sub 1 1 2;less 0 1 2;out 3;halt"),
                "9 11 15 15 15 - 8 0 0");
    }

    private static void liveForgetsEarlierForms() {
        BranchSlotFiller x = Check.expanded("out 3;out 4");
        lives(x, "24 16 0");
        x.clear();
        Check.parse(x, "jump 0");
        x.expand();
        lives(x, "0 - 0");
        x.undo();
        lives(x, "24 16 0");
    }

    private static void liveSeesSlots() {
        BranchSlotFiller before = Check.expanded("set 1 1;out 5;equal 2 3 4;out 1;out 4");
        before.fill(2, 0);
        Check.same("from before", Check.written(before), "set 1 1;equal 2 3 4|out 5;out 1;out 4");
        lives(before, "60 62 - 18 16 0");

        BranchSlotFiller annulled = Check.expanded("equal 2 3 2;out 1;set 1 1;out 1");
        lives(annulled, "14 - 2 0 2 0");
        annulled.fill(0, 1);
        Check.same("from the target", Check.written(annulled), "equal* 2 3 4|set 1 1;out 1;set 1 1;out 1");
        lives(annulled, "14 - 2 0 2 0");

        BranchSlotFiller read = Check.expanded("equal 2 3 2;out 0;out 1");
        read.fill(0, 1);
        lives(read, "15 - 3 2 0");

        BranchSlotFiller through = Check.expanded("equal 2 3 2;set 1 1;set 1 2;out 1");
        through.fill(0, 2);
        Check.same("from the fall-through path", Check.written(through), "equal 2 3 2|set 1 1;set 1 2;out 1");
        lives(through, "12 - 0 2 0");
    }

    private static void liveTellsErrors() {
        BranchSlotFiller x = Check.expanded("jump 1");
        Check.same("the end", x.live(2), 0);
        Check.fails("a slot", Check.STATE, () -> x.live(1));
        for (int i : new int[] {-1, 3, 60, 61, Integer.MAX_VALUE, Integer.MIN_VALUE}) {
            Check.fails("live(" + i + ")", Check.OUT_OF_BOUNDS, () -> x.live(i));
        }
        BranchSlotFiller full = Check.parsed(Check.repeated("jump 14", ";", 14));
        Check.parse(full, Check.repeated("jump 14", ";", 14));
        Check.parse(full, "jump 0;jump 2");
        full.expand();
        Check.same("the greatest end", full.live(60), 0);
        Check.fails("after it", Check.OUT_OF_BOUNDS, () -> full.live(61));
    }

    private static void independent(String one, String two, boolean due) {
        BranchSlotFiller x = Check.expanded(one + ";" + two);
        int k = x.entry(1, 4) == 1 ? 2 : 1;
        Check.same(one + " and " + two, x.isIndependent(0, k) ? 1 : 0, due ? 1 : 0);
        Check.same(two + " and " + one, x.isIndependent(k, 0) ? 1 : 0, due ? 1 : 0);
    }

    private static void isIndependentLooksAtRegisters() {
        independent("set 1 1", "set 2 1", true);
        independent("set 1 1", "set 1 1", false);
        independent("set 1 1", "copy 2 1", false);
        independent("set 1 1", "add 2 3 1", false);
        independent("set 1 1", "add 2 1 3", false);
        independent("set 1 1", "add 2 3 4", true);
        independent("set 1 1", "sub 2 2 1", false);
        independent("set 1 1", "load 2 1 0", false);
        independent("set 1 1", "load 2 3 1", true);
        independent("set 1 1", "store 1 2 0", false);
        independent("set 1 1", "store 2 1 0", false);
        independent("set 1 1", "store 2 3 1", true);
        independent("set 1 1", "out 1", false);
        independent("set 1 1", "out 2", true);
        independent("set 1 1", "equal 1 2 1", false);
        independent("set 1 1", "less 2 1 1", false);
        independent("set 1 1", "jump 1", true);
        independent("set 1 1", "nop", true);
        independent("set 1 1", "halt", true);
        independent("copy 1 2", "copy 3 2", true);
        independent("copy 1 2", "copy 2 1", false);
        independent("copy 1 2", "copy 1 3", false);
        independent("set 1 2", "set 0 0", true);
        independent("equal 1 2 0", "less 1 2 0", true);
    }

    private static void isIndependentLooksAtMemoryAndOutput() {
        independent("load 1 2 0", "load 3 2 0", true);
        independent("load 1 2 0", "store 3 2 1", false);
        independent("store 1 2 0", "store 3 4 1", false);
        independent("store 1 2 0", "out 1", true);
        independent("out 1", "out 2", false);
        independent("out 1", "load 2 3 0", true);
        BranchSlotFiller x = Check.expanded("nop;set 1 1;copy 1 2;load 1 2 3;store 1 2 3;out 1;equal 1 2 0;jump 0;halt");
        boolean[] due = {true, false, false, false, false, false, true, true, true, true, true};
        for (int i = 0; i < due.length; i++) {
            Check.same("itself: " + i, x.isIndependent(i, i) ? 1 : 0, due[i] ? 1 : 0);
        }
        for (int i : new int[] {-1, 11, Integer.MAX_VALUE, Integer.MIN_VALUE}) {
            Check.fails("isIndependent(" + i + ", 0)", Check.OUT_OF_BOUNDS, () -> x.isIndependent(i, 0) ? 1 : 0);
            Check.fails("isIndependent(0, " + i + ")", Check.OUT_OF_BOUNDS, () -> x.isIndependent(0, i) ? 1 : 0);
        }
    }

    private static void writeWritesEveryKind() {
        String text = "nop;set 1 -99;set 2 0;copy 2 3;add 4 5 6;sub 7 0 1;load 1 2 15;store 3 4 0;out 5;set 0 9;halt";
        Check.same("plain kinds", Check.written(Check.expanded(text)), text);
        Check.same("branches", Check.written(Check.expanded("equal 6 7 3;less 0 1 0;jump 1")),
                "equal 6 7 6|nop;less 0 1 0|nop;jump 2|nop");
        Check.same("numbers", Check.written(Check.expanded("set 01 -0;set 07 -09;set 0 10")),
                "set 1 0;set 7 -9;set 0 10");
        BranchSlotFiller x = Check.expanded("less 1 2 1;store 1 2 3;equal 1 2 2;jump 1");
        x.fillAll(1, 0);
        Check.same("stars", Check.written(x), "less* 1 2 3|store 1 2 3;store 1 2 3;equal 1 2 3|nop;jump 3|store 1 2 3");
        Check.same("nothing", Check.written(new BranchSlotFiller()), "");
    }

    private static void textStaysUntilTheNextWrite() {
        BranchSlotFiller x = Check.expanded("out 1");
        Check.fails("text before write", Check.OUT_OF_BOUNDS, () -> x.text(0));
        Check.same("write", x.write(), 5);
        x.clear();
        Check.parse(x, "jump 1;halt");
        x.expand();
        Check.same("the old text", Check.kept(x, 5), "out 1");
        for (int i : new int[] {-1, 5, Integer.MAX_VALUE, Integer.MIN_VALUE}) {
            Check.fails("text(" + i + ")", Check.OUT_OF_BOUNDS, () -> x.text(i));
        }
        Check.same("write again", x.write(), 15);
        Check.same("the new text", Check.kept(x, 15), "jump 2|nop;halt");
        x.undo();
        x.undo();
        Check.same("write nothing", x.write(), 0);
        Check.fails("no text", Check.OUT_OF_BOUNDS, () -> x.text(0));
    }
}
