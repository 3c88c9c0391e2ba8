/**
 * "A method that throws an exception or returns an error code leaves the state unchanged, unless its description says
 * otherwise": two objects are made in the same way, one of them gets a call that is refused, and then all that can be
 * asked of both must be the same.
 */
final class RefusedCallsTest {
    private interface Call {
        long of(BranchSlotFiller x);
    }

    private interface Maker {
        BranchSlotFiller make();
    }

    public static void main(String[] args) {
        Check.sentence("A method that throws an exception or returns an error code leaves the state unchanged");
        refusedByABusyOne();
        refusedByANewOne();
        refusedTexts();
        refusedFeed();
        Check.finish();
    }

    /** Something of everything: a source, a form with a filled slot, a text, an execution, what is saved, a buffer. */
    private static BranchSlotFiller busy() {
        BranchSlotFiller x = Check.expanded("set 1 1;equal 2 3 3;jump 0;out 5");
        x.setInitial(false, 5, 9);
        x.setInitial(true, 3, 8);
        x.run(true, 50);
        x.write();
        x.save();
        x.fill(3, 1);
        x.setInitial(false, 4, 7);
        Check.feed(x, "out 2");
        return x;
    }

    private static void refusedByABusyOne() {
        Check.same("the busy one", Check.text(busy()), "set 1 1;equal 2 3 5|nop;jump 0|nop;out 5");
        refused("instruction(4, 0)", Check.OUT_OF_BOUNDS, x -> x.instruction(4, 0));
        refused("instruction(0, 4)", Check.ARGUMENT, x -> x.instruction(0, 4));
        refused("entry(6, 0)", Check.OUT_OF_BOUNDS, x -> x.entry(6, 0));
        refused("entry(0, 7)", Check.ARGUMENT, x -> x.entry(0, 7));
        refused("count(5)", Check.ARGUMENT, x -> x.count(5));
        refused("live(7)", Check.OUT_OF_BOUNDS, x -> x.live(7));
        refused("live(2)", Check.STATE, x -> x.live(2));
        refused("isIndependent(6, 0)", Check.OUT_OF_BOUNDS, x -> x.isIndependent(6, 0) ? 1 : 0);
        refused("candidate(6, 0)", Check.OUT_OF_BOUNDS, x -> x.candidate(6, 0));
        refused("candidate(1, 3)", Check.ARGUMENT, x -> x.candidate(1, 3));
        refused("candidate(0, 0)", Check.STATE, x -> x.candidate(0, 0));
        refused("candidate(1, 2)", Check.NO_ELEMENT, x -> x.candidate(1, 2));
        refused("fill(6, 0)", Check.OUT_OF_BOUNDS, x -> x.fill(6, 0));
        refused("fill(-1, 0)", Check.OUT_OF_BOUNDS, x -> x.fill(-1, 0));
        refused("fill(1, 3)", Check.ARGUMENT, x -> x.fill(1, 3));
        refused("fill(0, 0)", Check.STATE, x -> x.fill(0, 0));
        refused("fill(3, 1)", Check.STATE, x -> x.fill(3, 1));
        refused("fill(1, 0)", Check.NO_ELEMENT, x -> x.fill(1, 0));
        refused("fill(1, 2)", Check.NO_ELEMENT, x -> x.fill(1, 2));
        refused("fillAll(1, 1)", Check.ARGUMENT, x -> x.fillAll(1, 1));
        refused("fillAll(1, 3)", Check.ARGUMENT, x -> x.fillAll(1, 3));
        refused("fillAll(-1, 1)", Check.ARGUMENT, x -> x.fillAll(-1, 1));
        refused("text(100)", Check.OUT_OF_BOUNDS, x -> x.text(100));
        refused("setInitial(false, 8, 1)", Check.OUT_OF_BOUNDS, x -> x.setInitial(false, 8, 1));
        refused("setInitial(false, -1, 1)", Check.OUT_OF_BOUNDS, x -> x.setInitial(false, -1, 1));
        refused("setInitial(true, 16, 1)", Check.OUT_OF_BOUNDS, x -> x.setInitial(true, 16, 1));
        refused("setInitial(true, -1, 1)", Check.OUT_OF_BOUNDS, x -> x.setInitial(true, -1, 1));
        refused("run(true, 0)", Check.ARGUMENT, x -> x.run(true, 0));
        refused("run(false, 2001)", Check.ARGUMENT, x -> x.run(false, 2001));
        refused("run(true, 3)", Check.UNSUPPORTED, x -> x.run(true, 3));
        refused("run(false, 2)", Check.UNSUPPORTED, x -> x.run(false, 2));
        refused("finalValue(false, 8)", Check.OUT_OF_BOUNDS, x -> x.finalValue(false, 8));
        refused("output(1)", Check.OUT_OF_BOUNDS, x -> x.output(1));
        refused("differences(1, 0)", Check.ARGUMENT, x -> x.differences(1, 0));
        refused("differences(1, 51)", Check.ARGUMENT, x -> x.differences(1, 51));
        refused("meanSteps(1, 0)", Check.ARGUMENT, x -> (long) x.meanSteps(1, 0));
        refused("meanSteps(1, 51)", Check.ARGUMENT, x -> (long) x.meanSteps(1, 51));
    }

    private static void refused(String what, Class<?> due, Call call) {
        compared(what, due, call, RefusedCallsTest::busy);
    }

    private static void refusedByANewOne() {
        Maker maker = () -> Check.parsed("out 1;jump 0");
        compared("undo of nothing", Check.STATE, x -> x.undo(), maker);
        compared("restore of nothing", Check.STATE, x -> x.restore(), maker);
        compared("filledShare of nothing", Check.ARITHMETIC, x -> (long) x.filledShare(), maker);
        compared("finalValue of nothing", Check.STATE, x -> x.finalValue(true, 0), maker);
        compared("outputs of nothing", Check.STATE, x -> x.outputs(), maker);
        compared("output of nothing", Check.STATE, x -> x.output(0), maker);
        compared("run without end", Check.UNSUPPORTED, x -> x.run(false, 2000), maker);
        compared("text of nothing", Check.OUT_OF_BOUNDS, x -> x.text(0), maker);
        compared("fill of nothing", Check.OUT_OF_BOUNDS, x -> x.fill(0, 0), maker);
        Maker changed = () -> Check.expanded("out 1;jump 0");
        compared("restore after a change", Check.STATE, x -> x.restore(), changed);
    }

    private static void compared(String what, Class<?> due, Call call, Maker maker) {
        BranchSlotFiller x = maker.make();
        Check.fails(what, due, () -> call.of(x));
        Check.same("all after " + what, all(x), all(maker.make()));
    }

    /** The buffer is empty afterwards, so that the other object never had one. */
    private static void refusedTexts() {
        String[] texts = {"set 3 3;jump 3;out", "set 3 3;out 8", "set 3 3;jump 3", Check.repeated("nop", ";", 27)};
        for (String text : texts) {
            BranchSlotFiller x = Check.expanded("set 1 1;equal 2 3 3;jump 0;out 5");
            Check.feed(x, text);
            if (text.endsWith("t")) {
                Check.same("parse of " + text, x.parse(), -100 - text.length());
            } else {
                Check.fails("parse of " + text, text.endsWith("p") ? Check.STATE : Check.ARGUMENT, x::parse);
            }
            String due = all(Check.expanded("set 1 1;equal 2 3 3;jump 0;out 5"));
            Check.same("all after parse of " + text, all(x), due);
        }
    }

    private static void refusedFeed() {
        String text = Check.repeated("nop", ";", 28) + ";set 0 7";
        BranchSlotFiller x = new BranchSlotFiller();
        Check.feed(x, text + "8");
        Check.fails("feed", Check.STATE, () -> x.feed('9'));
        Check.same("parse", x.parse(), 29);
        Check.same("the last instruction", Check.instruction(x, 28), "1 0 0 78");
    }

    /** All that can be asked of an object; the asking changes it. */
    private static String all(BranchSlotFiller x) {
        StringBuilder all = new StringBuilder("text ").append(Check.text(x));
        all.append("\nkept ").append(kept(x));
        forms(x, all);
        all.append("\nbuffer ");
        for (char letter : ";nop".toCharArray()) {
            all.append(' ').append(x.feed(letter));
        }
        all.append(" parse ").append(told(x, y -> y.parse()));
        forms(x, all);
        for (int k = 0; k < 9; k++) {
            all.append("\nundo ").append(told(x, y -> y.undo())).append(' ').append(Check.written(x));
        }
        initial(x, all);
        all.append("\nrestore ").append(told(x, y -> y.restore()));
        forms(x, all);
        initial(x, all);
        all.append("\nundo ").append(told(x, y -> y.undo()));
        return all.toString();
    }

    private static String told(BranchSlotFiller x, Call call) {
        try {
            return Long.toString(call.of(x));
        } catch (RuntimeException e) {
            return e.getClass().getSimpleName();
        }
    }

    private static String kept(BranchSlotFiller x) {
        StringBuilder text = new StringBuilder(told(x, y -> y.outputs()));
        for (int i = 0; i < 24; i++) {
            int place = i;
            text.append(' ').append(told(x, y -> y.finalValue(place >= 8, place % 8 + (place >= 16 ? 8 : 0))));
        }
        return text.append(' ').append(told(x, y -> y.output(0))).toString();
    }

    private static void forms(BranchSlotFiller x, StringBuilder all) {
        for (int i = 0; i < x.instructions(); i++) {
            all.append("\ninstruction ").append(Check.instruction(x, i));
        }
        all.append("\nform ").append(Check.written(x));
    }

    private static void initial(BranchSlotFiller x, StringBuilder all) {
        all.append("\ninitial");
        for (int i = 0; i < 24; i++) {
            all.append(' ').append(x.setInitial(i >= 8, i % 8 + (i >= 16 ? 8 : 0), 1));
        }
    }
}
