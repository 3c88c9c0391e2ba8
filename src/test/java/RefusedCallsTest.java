/**
 * "A method that throws an exception or returns an error code leaves the state unchanged, unless its description says
 * otherwise": two objects are made in the same way, one of them gets a call that is refused, and then each part of both
 * must be the same.
 */
final class RefusedCallsTest {
    private interface Maker {
        BranchSlotFiller make();
    }

    public static void main(String[] args) {
        Check.sentence("A method that throws an exception or returns an error code leaves the state unchanged");
        refusedByABusyOne();
        refusedByOthers();
        refusedByANewOne();
        refusedTexts();
        refusedFeed();
        Check.finish();
    }

    /** Something of everything: a source, a form with a filled slot, a text, an execution, what is saved, a buffer. */
    private static BranchSlotFiller made(boolean isRun, boolean isSaved, String buffer) {
        BranchSlotFiller x = Check.expanded("set 1 1;equal 2 3 3;jump 0;out 5");
        x.setInitial(false, 5, 9);
        x.setInitial(true, 3, 8);
        if (isRun) {
            x.run(true, 50);
        }
        x.write();
        if (isSaved) {
            x.save();
        }
        x.fill(3, 1);
        x.setInitial(false, 4, 7);
        Check.feed(x, buffer);
        return x;
    }

    private static BranchSlotFiller busy() {
        return made(true, true, "out 2");
    }

    private static BranchSlotFiller busyWithoutBranches() {
        BranchSlotFiller x = made(true, true, "");
        x.clear();
        Check.parse(x, "copy 3 4");
        x.expand();
        Check.feed(x, "out 2");
        return x;
    }

    private static BranchSlotFiller busyWithoutChanges() {
        BranchSlotFiller x = busyWithoutBranches();
        x.save();
        x.restore();
        x.clear();
        x.setInitial(true, 6, 5);
        return x;
    }

    private static void refusedByABusyOne() {
        Check.same("the busy one", Check.text(busy()), "set 1 1;equal 2 3 5|nop;jump 0|nop;out 5");
        refused("instruction(4, 0)", Check.OUT_OF_BOUNDS, x -> x.instruction(4, 0));
        refused("instruction(0, 4)", Check.ARGUMENT, x -> x.instruction(0, 4));
        refused("entry(6, 0)", Check.OUT_OF_BOUNDS, x -> x.entry(6, 0));
        refused("entry(0, 7)", Check.ARGUMENT, x -> x.entry(0, 7));
        refused("count(5)", Check.ARGUMENT, x -> x.count(5));
        refused("live(7)", Check.OUT_OF_BOUNDS, x -> x.live(7));
        refused("live(2)", Check.STATE, x -> x.live(2));
        refused("isIndependent(6, 0)", Check.OUT_OF_BOUNDS, x -> x.isIndependent(6, 0) ? 1 : 0);
        refused("candidate(6, 0)", Check.OUT_OF_BOUNDS, x -> x.candidate(6, 0));
        refused("candidate(1, 3)", Check.ARGUMENT, x -> x.candidate(1, 3));
        refused("candidate(0, 0)", Check.STATE, x -> x.candidate(0, 0));
        refused("candidate(1, 2)", Check.NO_ELEMENT, x -> x.candidate(1, 2));
        refused("fill(6, 0)", Check.OUT_OF_BOUNDS, x -> x.fill(6, 0));
        refused("fill(-1, 0)", Check.OUT_OF_BOUNDS, x -> x.fill(-1, 0));
        refused("fill(1, 3)", Check.ARGUMENT, x -> x.fill(1, 3));
        refused("fill(0, 0)", Check.STATE, x -> x.fill(0, 0));
        refused("fill(3, 1)", Check.STATE, x -> x.fill(3, 1));
        refused("fill(1, 0)", Check.NO_ELEMENT, x -> x.fill(1, 0));
        refused("fill(1, 2)", Check.NO_ELEMENT, x -> x.fill(1, 2));
        refused("fillAll(1, 1)", Check.ARGUMENT, x -> x.fillAll(1, 1));
        refused("fillAll(1, 3)", Check.ARGUMENT, x -> x.fillAll(1, 3));
        refused("fillAll(-1, 1)", Check.ARGUMENT, x -> x.fillAll(-1, 1));
        refused("text(100)", Check.OUT_OF_BOUNDS, x -> x.text(100));
        refused("setInitial(false, 8, 1)", Check.OUT_OF_BOUNDS, x -> x.setInitial(false, 8, 1));
        refused("setInitial(false, -1, 1)", Check.OUT_OF_BOUNDS, x -> x.setInitial(false, -1, 1));
        refused("setInitial(true, 16, 1)", Check.OUT_OF_BOUNDS, x -> x.setInitial(true, 16, 1));
        refused("setInitial(true, -1, 1)", Check.OUT_OF_BOUNDS, x -> x.setInitial(true, -1, 1));
        refused("run(true, 0)", Check.ARGUMENT, x -> x.run(true, 0));
        refused("run(false, 2001)", Check.ARGUMENT, x -> x.run(false, 2001));
        refused("run(true, 3)", Check.UNSUPPORTED, x -> x.run(true, 3));
        refused("run(false, 2)", Check.UNSUPPORTED, x -> x.run(false, 2));
        refused("finalValue(false, 8)", Check.OUT_OF_BOUNDS, x -> x.finalValue(false, 8));
        refused("output(1)", Check.OUT_OF_BOUNDS, x -> x.output(1));
        refused("differences(1, 0)", Check.ARGUMENT, x -> x.differences(1, 0));
        refused("differences(1, 51)", Check.ARGUMENT, x -> x.differences(1, 51));
        refused("meanSteps(1, 0)", Check.ARGUMENT, x -> (long) x.meanSteps(1, 0));
        refused("meanSteps(1, 51)", Check.ARGUMENT, x -> (long) x.meanSteps(1, 51));
    }

    private static void refused(String what, Class<?> due, Part.Call call) {
        compared(what, due, call, RefusedCallsTest::busy);
    }

    private static void refusedByOthers() {
        compared("undo", Check.STATE, x -> x.undo(), RefusedCallsTest::busyWithoutChanges);
        compared("filledShare", Check.ARITHMETIC, x -> (long) x.filledShare(), RefusedCallsTest::busyWithoutBranches);
        compared("restore", Check.STATE, x -> x.restore(), () -> made(true, false, "out 2"));
        Maker maker = () -> made(false, true, "out 2");
        compared("finalValue", Check.STATE, x -> x.finalValue(true, 0), maker);
        compared("outputs", Check.STATE, x -> x.outputs(), maker);
        compared("output", Check.STATE, x -> x.output(0), maker);
        compared("run", Check.UNSUPPORTED, x -> x.run(true, 3), maker);
        String full = Check.repeated("nop", ";", 28) + ";set 0 78";
        compared("feed", Check.STATE, x -> x.feed('9'), () -> made(true, true, full));
    }

    private static void refusedByANewOne() {
        Maker maker = () -> Check.parsed("out 1;jump 0");
        compared("undo of nothing", Check.STATE, x -> x.undo(), maker);
        compared("restore of nothing", Check.STATE, x -> x.restore(), maker);
        compared("filledShare of nothing", Check.ARITHMETIC, x -> (long) x.filledShare(), maker);
        compared("finalValue of nothing", Check.STATE, x -> x.finalValue(true, 0), maker);
        compared("outputs of nothing", Check.STATE, x -> x.outputs(), maker);
        compared("output of nothing", Check.STATE, x -> x.output(0), maker);
        compared("run without end", Check.UNSUPPORTED, x -> x.run(false, 2000), maker);
        compared("text of nothing", Check.OUT_OF_BOUNDS, x -> x.text(0), maker);
        compared("fill of nothing", Check.OUT_OF_BOUNDS, x -> x.fill(0, 0), maker);
    }

    private static void compared(String what, Class<?> due, Part.Call call, Maker maker) {
        for (Part part : Part.values()) {
            BranchSlotFiller x = maker.make();
            Check.fails(what, due, () -> call.of(x));
            Check.same(part + " after " + what, part.of(x), part.of(maker.make()));
        }
    }

    /** The buffer is empty afterwards, so that the other object never had one. */
    private static void refusedTexts() {
        refusedText("set 3 3;jump 3;out", null);
        refusedText("set 3 3;out 8", Check.ARGUMENT);
        refusedText("set 3 3;jump 3", Check.ARGUMENT);
        refusedText(Check.repeated("nop", ";", 27), Check.STATE);
    }

    private static void refusedText(String text, Class<?> due) {
        for (Part part : Part.values()) {
            BranchSlotFiller x = made(true, true, text);
            if (due == null) {
                Check.same("parse of " + text, x.parse(), -100 - text.length());
            } else {
                Check.fails("parse of " + text, due, x::parse);
            }
            Check.same(part + " after parse of " + text, part.of(x), part.of(made(true, true, "")));
        }
    }

    private static void refusedFeed() {
        String text = Check.repeated("nop", ";", 28) + ";set 0 7";
        BranchSlotFiller x = new BranchSlotFiller();
        Check.feed(x, text + "8");
        Check.fails("feed", Check.STATE, () -> x.feed('9'));
        Check.same("parse", x.parse(), 29);
        Check.same("the last instruction", Check.instruction(x, 28), "1 0 0 78");
    }
}
