/** The examples of the document and of README.md. */
final class ExamplesTest {
    public static void main(String[] args) {
        theDocuments();
        theReadmes();
        Check.finish();
    }

    private static void theDocuments() {
        BranchSlotFiller one = new BranchSlotFiller();
        Check.feed(one, "jump 1;out 1");
        Check.same("parse", one.parse(), 2);
        Check.same("expand", one.expand(), 3);

        BranchSlotFiller two = new BranchSlotFiller();
        Check.feed(two, "add 1 8 1");
        Check.fails("parse", Check.ARGUMENT, two::parse);

        BranchSlotFiller three = new BranchSlotFiller();
        Check.same("expand", three.expand(), 0);
        Check.same("count(0)", three.count(0), 0);
        Check.same("run(true, 10)", three.run(true, 10), 0);
        Check.same("outputs", three.outputs(), 0);
        Check.same("differences(1, 5)", three.differences(1, 5), 0);
        Check.same("live(0)", three.live(0), 0);
        Check.same("undo", three.undo(), 0);
        Check.same("write", three.write(), 0);

        BranchSlotFiller four = new BranchSlotFiller();
        Check.same("setInitial(false, 2, 7)", four.setInitial(false, 2, 7), 0);
        Check.same("run(false, 5)", four.run(false, 5), 0);
        Check.same("finalValue(false, 2)", four.finalValue(false, 2), 7);
        Check.same("finalValue(true, 3)", four.finalValue(true, 3), 0);
        Check.fails("setInitial(true, 16, 1)", Check.OUT_OF_BOUNDS, () -> four.setInitial(true, 16, 1));
        Check.fails("filledShare", Check.ARITHMETIC, () -> (long) four.filledShare());
    }

    private static void theReadmes() {
        BranchSlotFiller x = new BranchSlotFiller();
        Check.feed(x, "set 1 5;equal 2 3 2;out 1");
        Check.same("parse", x.parse(), 3);
        Check.same("expand", x.expand(), 4);
        Check.same("fill(1, 0)", x.fill(1, 0), 0);
        Check.same("the text", Check.written(x), "equal 2 3 2|set 1 5;out 1");
        Check.same("run(true, 100)", x.run(true, 100), 3);
        Check.same("output(0)", x.output(0), 5);
        Check.same("differences(1, 50)", x.differences(1, 50), 0);
    }
}
