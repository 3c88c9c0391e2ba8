/** Promises 27 and 28: save, restore. */
final class SnapshotTest {
    public static void main(String[] args) {
        restoreNeedsSomethingSaved();
        restoreBringsBackAllThree();
        whatWasSavedStays();
        restoreForgetsChanges();
        otherThingsStay();
        Check.finish();
    }

    private static void restoreNeedsSomethingSaved() {
        BranchSlotFiller x = Check.expanded("out 1");
        Check.fails("restore", Check.STATE, x::restore);
        Check.same("the source stays", x.instructions(), 1);
        Check.same("the change stays", x.undo(), 0);
        BranchSlotFiller y = new BranchSlotFiller();
        Check.same("save nothing", y.save(), 0);
        Check.parse(y, "nop;nop");
        y.expand();
        Check.same("restore nothing", y.restore(), 0);
        Check.same("no instructions", y.instructions(), 0);
        Check.same("no entries", y.entries(), 0);
    }

    private static void restoreBringsBackAllThree() {
        BranchSlotFiller x = Check.expanded("set 1 1;equal 2 3 2;out 4");
        x.fill(1, 1);
        String form = Check.written(x);
        x.setInitial(false, 7, 70);
        x.setInitial(true, 15, 150);
        Check.same("save", x.save(), 3);
        Check.same("the source is as it was", x.instructions(), 3);
        Check.same("the form is as it was", Check.written(x), form);
        x.clear();
        Check.parse(x, "halt");
        x.expand();
        x.setInitial(false, 7, 1);
        x.setInitial(true, 15, 2);
        x.setInitial(true, 0, 3);
        Check.same("restore", x.restore(), 3);
        Check.same("the source", Check.instruction(x, 1), "8 2 3 2");
        Check.same("the form", Check.written(x), form);
        Check.same("the register", x.setInitial(false, 7, 0), 70);
        Check.same("the cell", x.setInitial(true, 15, 0), 150);
        Check.same("another cell", x.setInitial(true, 0, 0), 0);
        Check.same("a target of the restored source", Check.parse(x, "jump 0"), 1);
        Check.same("its number", x.instruction(3, 3), 3);
    }

    private static void whatWasSavedStays() {
        BranchSlotFiller x = Check.expanded("set 1 1;jump 2");
        x.save();
        x.restore();
        x.fillAll(0, 1);
        Check.parse(x, "nop");
        x.setInitial(true, 3, 4);
        Check.same("restore again", x.restore(), 2);
        Check.same("the source", x.instructions(), 2);
        Check.same("the form", Check.written(x), "set 1 1;jump 3|nop");
        Check.same("the cell", x.setInitial(true, 3, 4), 0);
        x.clear();
        Check.same("save in its place", x.save(), 0);
        Check.parse(x, "nop");
        Check.same("restore the later one", x.restore(), 0);
        Check.same("the later source", x.instructions(), 0);
        Check.same("the form", x.entries(), 3);
        Check.same("the later cell", x.setInitial(true, 3, 0), 4);
    }

    private static void restoreForgetsChanges() {
        BranchSlotFiller x = Check.expanded("set 1 1;jump 2");
        x.save();
        x.fill(1, 0);
        x.restore();
        Check.fails("undo after restore", Check.STATE, x::undo);
        x.fill(1, 0);
        x.expand();
        Check.same("undo of a later change", x.undo(), 1);
        Check.same("the form", Check.written(x), "jump 2|set 1 1");
        Check.same("undo of a later change", x.undo(), 0);
        Check.same("the form", Check.written(x), "set 1 1;jump 3|nop");
        Check.fails("undo before restore", Check.STATE, x::undo);
        x.fill(1, 0);
        x.save();
        Check.same("undo after save", x.undo(), 0);
        x.restore();
        Check.same("the saved form", Check.written(x), "jump 2|set 1 1");
    }

    private static void otherThingsStay() {
        BranchSlotFiller x = Check.expanded("out 1");
        x.save();
        x.setInitial(false, 1, 5);
        x.run(true, 1);
        x.write();
        x.feed('n');
        x.restore();
        Check.same("the buffer", x.feed('o'), 2);
        Check.same("the text", Check.kept(x, 5), "out 1");
        Check.same("the output", x.output(0), 5);
        Check.same("the final value", x.finalValue(false, 1), 5);
    }
}
