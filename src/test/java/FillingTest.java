/** Promises 13 to 16: candidate, fill, fillAll, undo. */
final class FillingTest {
    public static void main(String[] args) {
        fromBeforeTakesTheFirstIndependentEntry();
        fromBeforeStops();
        fromBeforeMovesTargets();
        fromTargetCopies();
        fromTargetHasNoCandidate();
        fromFallThroughRemoves();
        fromFallThroughHasNoCandidate();
        fromFallThroughLooksAtLiveRegisters();
        errorsComeInTheirOrder();
        aFailedFillChangesNothing();
        fillAllTriesTheWaysInOrder();
        fillAllGoesFromTheFirstToTheLast();
        fillAllLooksAtItsArguments();
        undoTakesBackEachKindOfChange();
        undoForgetsOlderChanges();
        Check.finish();
    }

    private static void filled(String text, int branch, int way, int found, int then, String due) {
        BranchSlotFiller x = Check.expanded(text);
        String what = " of " + branch + " in way " + way + " in " + text;
        Check.same("candidate" + what, x.candidate(branch, way), found);
        Check.same("fill" + what, x.fill(branch, way), then);
        Check.same("form after fill" + what, Check.written(x), due);
        Check.fails("fill again" + what, Check.STATE, () -> x.fill(then, way));
        Check.fails("candidate again" + what, Check.STATE, () -> x.candidate(then, way));
        Check.same("differences after fill" + what, x.differences(17, 50), 0);
        Check.same("undo of fill" + what, x.undo(), 1);
        Check.same("the earlier form", Check.written(x), Check.written(Check.expanded(text)));
    }

    private static void none(String text, int branch, int way) {
        BranchSlotFiller x = Check.expanded(text);
        String what = " of " + branch + " in way " + way + " in " + text;
        Check.fails("candidate" + what, Check.NO_ELEMENT, () -> x.candidate(branch, way));
        Check.fails("fill" + what, Check.NO_ELEMENT, () -> x.fill(branch, way));
    }

    private static void fromBeforeTakesTheFirstIndependentEntry() {
        filled("set 1 5;equal 2 3 2;out 1", 1, 0, 0, 0, "equal 2 3 2|set 1 5;out 1");
        filled("set 1 5;jump 2;out 1", 1, 0, 0, 0, "jump 2|set 1 5;out 1");
        filled("out 1;less 2 3 2;out 1", 1, 0, 0, 0, "less 2 3 2|out 1;out 1");
        filled("store 1 2 3;equal 1 2 2", 1, 0, 0, 0, "equal 1 2 2|store 1 2 3");
        filled("set 1 5;set 2 6;jump 3", 2, 0, 1, 1, "set 1 5;jump 3|set 2 6");
        filled("set 1 5;set 2 6;equal 2 3 3", 2, 0, 0, 1, "set 2 6;equal 2 3 3|set 1 5");
        filled("set 1 5;nop;nop;jump 4", 3, 0, 0, 2, "nop;nop;jump 4|set 1 5");
        filled("load 1 2 0;copy 3 4;less 3 0 3", 2, 0, 0, 1, "copy 3 4;less 3 0 3|load 1 2 0");
        filled("load 1 2 0;load 3 4 0;equal 3 3 3", 2, 0, 0, 1, "load 3 4 0;equal 3 3 3|load 1 2 0");
        filled("equal 0 0 1;set 1 1;less 2 3 3", 3, 0, 2, 2, "equal 0 0 2|nop;less 2 3 4|set 1 1");
    }

    private static void fromBeforeStops() {
        none("jump 0", 0, 0);
        none("jump 1", 0, 0);
        none("nop;jump 2", 1, 0);
        none("halt;jump 2", 1, 0);
        none("set 1 1;halt;jump 3", 2, 0);
        none("set 1 1;jump 3;jump 3", 3, 0);
        none("set 1 1;equal 1 2 2", 1, 0);
        none("out 1;out 4;copy 4 2;equal 4 3 4", 3, 0);
        none("store 1 2 0;load 3 4 1;equal 3 5 3", 2, 0);
        none("set 1 1;copy 2 1;equal 2 3 3", 2, 0);
        none("copy 1 2;set 2 1;equal 2 3 3", 2, 0);
        none("set 1 1;equal 2 3 1", 1, 0);
        none("jump 2;set 1 1;jump 3", 3, 0);
        none("set 1 1;set 2 1;equal 2 3 1", 2, 0);
        none("set 1 1;nop;equal 2 3 1", 2, 0);
    }

    private static void fromBeforeMovesTargets() {
        filled("set 1 1;equal 2 3 0", 1, 0, 0, 0, "equal 2 3 0|set 1 1");
        filled("equal 0 1 2;out 3;set 1 1;equal 2 3 2;jump 2", 4, 0, 3, 3,
                "equal 0 1 3|nop;out 3;equal 2 3 3|set 1 1;jump 3|nop");
        filled("equal 0 1 4;out 3;set 1 1;less 2 3 4;out 1;jump 2", 4, 0, 3, 3,
                "equal 0 1 5|nop;out 3;less 2 3 5|set 1 1;out 1;jump 3|nop");
        filled("jump 3;set 1 1;jump 3;out 1", 3, 0, 2, 2, "jump 4|nop;jump 4|set 1 1;out 1");
        filled("jump 1;set 1 1;set 2 2;jump 4", 4, 0, 3, 3, "jump 2|nop;set 1 1;jump 5|set 2 2");
    }

    private static void fromTargetCopies() {
        filled("jump 2;out 1;out 2", 0, 1, 3, 0, "jump 4|out 2;out 1;out 2");
        filled("jump 2;out 1;out 2;out 3", 0, 1, 3, 0, "jump 4|out 2;out 1;out 2;out 3");
        filled("equal 1 2 2;out 1;out 2;out 3", 0, 1, 3, 0, "equal* 1 2 4|out 2;out 1;out 2;out 3");
        filled("less 1 2 1;store 1 2 0", 0, 1, 2, 0, "less* 1 2 3|store 1 2 0;store 1 2 0");
        filled("set 1 1;equal 1 2 0", 1, 1, 0, 1, "set 1 1;equal* 1 2 1|set 1 1");
        filled("out 1;less 1 2 0;jump 0", 3, 1, 0, 3, "out 1;less 1 2 0|nop;jump 1|out 1");
        filled("jump 1;load 1 2 3", 0, 1, 2, 0, "jump 3|load 1 2 3;load 1 2 3");
    }

    private static void fromTargetHasNoCandidate() {
        none("jump 1", 0, 1);
        none("equal 1 2 1", 0, 1);
        none("jump 1;nop", 0, 1);
        none("jump 1;halt", 0, 1);
        none("jump 1;jump 0", 0, 1);
        none("jump 0", 0, 1);
        none("jump 1;less 1 2 0;out 1", 0, 1);
    }

    private static void fromFallThroughRemoves() {
        filled("equal 1 2 2;set 3 1;out 4", 0, 2, 2, 0, "equal 1 2 2|set 3 1;out 4");
        filled("less 1 2 2;load 3 1 0;out 4", 0, 2, 2, 0, "less 1 2 2|load 3 1 0;out 4");
        filled("equal 1 2 2;set 3 1", 0, 2, 2, 0, "equal 1 2 2|set 3 1");
        filled("equal 1 2 3;copy 3 1;out 3;set 3 2;out 3", 0, 2, 2, 0, "equal 1 2 3|copy 3 1;out 3;set 3 2;out 3");
        filled("equal 1 2 2;add 1 1 2;out 4;jump 3", 0, 2, 2, 0, "equal 1 2 2|add 1 1 2;out 4;jump 3|nop");
    }

    private static void fromFallThroughHasNoCandidate() {
        none("jump 1;set 1 1", 0, 2);
        none("jump 2;set 1 1;out 2", 0, 2);
        none("equal 1 2 1", 0, 2);
        none("equal 1 2 2;nop;out 1", 0, 2);
        none("equal 1 2 2;jump 2;out 1", 0, 2);
        none("equal 1 2 2;less 1 2 2;out 1", 0, 2);
        none("equal 1 2 2;halt;out 1", 0, 2);
        none("equal 1 2 2;store 1 2 3;out 1", 0, 2);
        none("equal 1 2 2;out 1;out 2", 0, 2);
        none("equal 1 2 1;set 3 1", 0, 2);
        none("equal 1 2 2;set 3 1;out 4;jump 1", 0, 2);
    }

    private static void fromFallThroughLooksAtLiveRegisters() {
        none("equal 1 2 2;set 3 1;out 3", 0, 2);
        none("equal 1 2 2;set 3 1;nop;out 4;out 3", 0, 2);
        none("less 1 2 2;load 3 1 0;equal 3 3 3", 0, 2);
        filled("equal 1 2 0;set 3 1", 0, 2, 2, 0, "equal 1 2 0|set 3 1");
        none("equal 1 2 0;set 1 1", 0, 2);
        none("equal 1 2 0;set 2 1", 0, 2);
        // The slot of the branch at the target counts: it lies on both ways, or on the taken one alone.
        BranchSlotFiller x = Check.expanded("equal 1 2 2;set 3 1;set 3 7;less 1 2 5;out 3;out 4");
        Check.same("fill 3 from before", x.fill(4, 0), -1 + 4);
        Check.same("the form", Check.written(x), "equal 1 2 3|nop;set 3 1;less 1 2 6|set 3 7;out 3;out 4");
        Check.same("a register that a slot writes", x.candidate(0, 2), 2);
        BranchSlotFiller y = Check.expanded("equal 1 2 2;set 3 1;less 1 2 4;out 3;set 3 7;out 4");
        y.fill(3, 1);
        Check.same("the form", Check.written(y), "equal 1 2 3|nop;set 3 1;less* 1 2 7|set 3 7;out 3;set 3 7;out 4");
        Check.fails("a register that an annulled slot does not write", Check.NO_ELEMENT, () -> y.candidate(0, 2));
    }

    private static void errorsComeInTheirOrder() {
        BranchSlotFiller x = Check.expanded("set 1 1;jump 3;halt");
        for (int branch : new int[] {-1, 4, 60, Integer.MAX_VALUE, Integer.MIN_VALUE}) {
            Check.fails("candidate(" + branch + ", 0)", Check.OUT_OF_BOUNDS, () -> x.candidate(branch, 0));
            Check.fails("candidate(" + branch + ", 3)", Check.OUT_OF_BOUNDS, () -> x.candidate(branch, 3));
            Check.fails("fill(" + branch + ", 0)", Check.OUT_OF_BOUNDS, () -> x.fill(branch, 0));
            Check.fails("fill(" + branch + ", -1)", Check.OUT_OF_BOUNDS, () -> x.fill(branch, -1));
        }
        for (int way : new int[] {-1, 3, Integer.MAX_VALUE, Integer.MIN_VALUE}) {
            Check.fails("candidate(1, " + way + ")", Check.ARGUMENT, () -> x.candidate(1, way));
            Check.fails("candidate(0, " + way + ")", Check.ARGUMENT, () -> x.candidate(0, way));
            Check.fails("fill(1, " + way + ")", Check.ARGUMENT, () -> x.fill(1, way));
            Check.fails("fill(2, " + way + ")", Check.ARGUMENT, () -> x.fill(2, way));
        }
        for (int i : new int[] {0, 2, 3}) {
            Check.fails("candidate(" + i + ", 0), no branch", Check.STATE, () -> x.candidate(i, 0));
            Check.fails("fill(" + i + ", 1), no branch", Check.STATE, () -> x.fill(i, 1));
        }
        Check.same("fill", x.fill(1, 0), 0);
        Check.fails("a slot that is filled", Check.STATE, () -> x.candidate(0, 2));
        Check.fails("a slot that is filled", Check.STATE, () -> x.fill(0, 1));
    }

    private static void aFailedFillChangesNothing() {
        BranchSlotFiller x = Check.expanded("set 1 1;equal 1 2 2;out 1");
        String before = Check.written(x);
        Check.fails("fill from before", Check.NO_ELEMENT, () -> x.fill(1, 0));
        Check.fails("fill of no branch", Check.STATE, () -> x.fill(0, 0));
        Check.fails("fill in no way", Check.ARGUMENT, () -> x.fill(1, 3));
        Check.fails("fillAll in no way", Check.ARGUMENT, () -> x.fillAll(1, 3));
        Check.same("candidate", x.candidate(1, 1), 3);
        Check.same("the form", Check.written(x), before);
        Check.same("expand is the only change", x.undo(), 0);
        Check.same("the form", Check.written(x), "");
    }

    private static void all(String text, int first, int second, int filled, String due) {
        BranchSlotFiller x = Check.expanded(text);
        String what = "fillAll(" + first + ", " + second + ") of " + text;
        Check.same(what, x.fillAll(first, second), filled);
        Check.same("the form after " + what, Check.written(x), due);
        Check.same("differences after " + what, x.differences(-3, 50), 0);
        Check.same("undo of " + what, x.undo(), 1);
        Check.same("the form before " + what, Check.written(x), Check.written(Check.expanded(text)));
    }

    private static void fillAllTriesTheWaysInOrder() {
        String text = "set 1 1;equal 2 3 3;set 4 1;out 5";
        all(text, 0, 1, 1, "equal 2 3 3|set 1 1;set 4 1;out 5");
        all(text, 0, 2, 1, "equal 2 3 3|set 1 1;set 4 1;out 5");
        all(text, 1, 0, 1, "set 1 1;equal* 2 3 5|out 5;set 4 1;out 5");
        all(text, 1, 2, 1, "set 1 1;equal* 2 3 5|out 5;set 4 1;out 5");
        all(text, 2, 0, 1, "set 1 1;equal 2 3 3|set 4 1;out 5");
        all(text, 2, 1, 1, "set 1 1;equal 2 3 3|set 4 1;out 5");
        String later = "set 2 1;equal 2 3 3;set 4 1;out 5";
        all(later, 0, 1, 1, "set 2 1;equal* 2 3 5|out 5;set 4 1;out 5");
        all(later, 0, 2, 1, "set 2 1;equal 2 3 3|set 4 1;out 5");
        String last = "set 2 1;equal 2 3 3;out 4;out 5";
        all(last, 0, 2, 1, "set 2 1;equal* 2 3 5|out 5;out 4;out 5");
        all(last, 2, 0, 1, "set 2 1;equal* 2 3 5|out 5;out 4;out 5");
        String third = "set 2 1;equal 2 3 3;set 4 1;halt";
        all(third, 0, 1, 1, "set 2 1;equal 2 3 3|set 4 1;halt");
        all(third, 1, 0, 1, "set 2 1;equal 2 3 3|set 4 1;halt");
    }

    private static void fillAllGoesFromTheFirstToTheLast() {
        all("", 0, 1, 0, "");
        all("nop;jump 2", 0, 1, 0, "nop;jump 3|nop");
        all("set 1 1;jump 2;set 2 2;jump 4;set 3 3;jump 6", 0, 1, 3, "jump 2|set 1 1;jump 4|set 2 2;jump 6|set 3 3");
        // The last branch has become a target by then, so that nothing is considered before it.
        all("set 1 1;jump 2;set 2 2;jump 4;set 3 3;jump 6", 2, 1, 2,
                "set 1 1;jump 4|set 2 2;set 2 2;jump 7|set 3 3;set 3 3;jump 9|nop");
        all("set 1 1;jump 2;jump 3;set 3 3", 0, 1, 2, "jump 2|set 1 1;jump 5|set 3 3;set 3 3");
        allAsByFill("set 1 1;equal 1 2 2;set 3 3;less 3 4 4;out 5");
        allAsByFill("set 1 1;out 4;equal 2 3 5;set 2 3;store 1 2 4;less 1 2 1;set 1 3;jump 0;set 5 5;equal 1 5 3");
        BranchSlotFiller x = Check.expanded("equal 1 2 3;set 3 3;set 4 4;equal 1 2 5;set 5 5;out 6");
        x.fill(0, 2);
        Check.same("the rest", x.fillAll(2, 0), 1);
        Check.same("the form", Check.written(x), "equal 1 2 3|set 3 3;set 4 4;equal 1 2 5|set 5 5;out 6");
        Check.same("nothing more", x.fillAll(0, 1), 0);
        Check.same("is a change too", x.undo(), 3);
        Check.same("undo the rest", x.undo(), 2);
        Check.same("the form", Check.written(x), "equal 1 2 3|set 3 3;set 4 4;equal 1 2 6|nop;set 5 5;out 6");
    }

    private static void allAsByFill(String text) {
        for (int first = 0; first < 3; first++) {
            for (int second = 0; second < 3; second++) {
                if (first != second) {
                    allAsByFill(text, new int[] {first, second, 3 - first - second});
                }
            }
        }
    }

    private static void allAsByFill(String text, int[] ways) {
        BranchSlotFiller x = Check.expanded(text);
        BranchSlotFiller y = Check.expanded(text);
        int filled = 0;
        for (int i = 0; i < y.entries(); i++) {
            int kind = y.entry(i, 0);
            if (kind >= 8 && kind <= 10 && y.entry(i + 1, 0) == 0) {
                int branch = filledInOneOf(y, i, ways);
                filled += branch < 0 ? 0 : 1;
                i = branch < 0 ? i : branch;
            }
        }
        Check.same("fillAll of " + text, x.fillAll(ways[0], ways[1]), filled);
        Check.same("fillAll as fill in " + text, Check.written(x), Check.written(y));
        Check.same("differences in " + text, x.differences(5, 50), 0);
    }

    private static int filledInOneOf(BranchSlotFiller y, int branch, int[] ways) {
        for (int way : ways) {
            try {
                return y.fill(branch, way);
            } catch (java.util.NoSuchElementException e) {
                continue;
            }
        }
        return -1;
    }

    private static void fillAllLooksAtItsArguments() {
        BranchSlotFiller x = Check.expanded("set 1 1;jump 2");
        int[][] wrong = {{0, 0}, {1, 1}, {2, 2}, {-1, 0}, {0, -1}, {3, 0}, {0, 3}, {3, 3}, {-1, -1},
            {Integer.MAX_VALUE, 1}, {1, Integer.MIN_VALUE}};
        for (int[] ways : wrong) {
            Check.fails("fillAll(" + ways[0] + ", " + ways[1] + ")", Check.ARGUMENT, () -> x.fillAll(ways[0], ways[1]));
        }
        Check.same("fillAll(2, 1)", x.fillAll(2, 1), 1);
    }

    private static void undoTakesBackEachKindOfChange() {
        BranchSlotFiller x = Check.expanded("set 1 1;equal 2 3 2;out 1");
        Check.fails("undo of nothing", Check.STATE, () -> new BranchSlotFiller().undo());
        x.fill(1, 1);
        String filled = Check.written(x);
        x.fillAll(0, 1);
        x.clear();
        x.expand();
        Check.same("the empty form", x.entries(), 0);
        Check.same("undo of expand", x.undo(), 3);
        Check.same("undo of fillAll", x.undo(), 2);
        Check.same("the form", Check.written(x), filled);
        Check.same("undo of fill", x.undo(), 1);
        Check.same("the form", Check.written(x), "set 1 1;equal 2 3 3|nop;out 1");
        Check.same("undo of the first expand", x.undo(), 0);
        Check.same("no form", x.entries(), 0);
        Check.fails("undo of nothing more", Check.STATE, x::undo);
        Check.same("the source is empty still", x.instructions(), 0);
    }

    private static void undoForgetsOlderChanges() {
        BranchSlotFiller x = new BranchSlotFiller();
        for (int i = 0; i < 11; i++) {
            Check.parse(x, "nop");
            x.expand();
        }
        Check.same("11 entries", x.entries(), 11);
        for (int i = 7; i >= 0; i--) {
            Check.same("undo", x.undo(), i);
            Check.same("entries", x.entries(), i + 3);
        }
        Check.fails("the 9th undo", Check.STATE, x::undo);
        Check.same("entries stay", x.entries(), 3);
        x.expand();
        x.fillAll(0, 1);
        Check.same("undo after new changes", x.undo(), 1);
        Check.same("entries", x.entries(), 11);
        Check.same("undo after new changes", x.undo(), 0);
        Check.same("entries", x.entries(), 3);
        Check.fails("forgotten for good", Check.STATE, x::undo);
    }
}
