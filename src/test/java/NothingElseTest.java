import java.util.EnumSet;
import java.util.Set;

/**
 * "Nothing is promised beyond the answers and state changes described above": of two objects that were made in the same
 * way one gets a call, and then the parts that the promise of the call does not name must be the same in both.
 */
final class NothingElseTest {
    private static final Part[] NO_PART = {};

    public static void main(String[] args) {
        Check.sentence("Not promised: nothing is promised beyond the answers and state changes described above");
        theBusyOne();
        theSource();
        theExpandedForm();
        theExecution();
        snapshots();
        questions();
        Check.finish();
    }

    /** Something of everything, and nothing twice: what is saved, written and kept is not what stands now. */
    private static BranchSlotFiller busy() {
        BranchSlotFiller x = Check.parsed("set 7 7");
        x.expand();
        x.clear();
        Check.parse(x, "out 1;less 2 3 4;nop;jump 0;out 5");
        x.expand();
        x.setInitial(false, 1, 3);
        x.setInitial(true, 15, 9);
        x.write();
        x.save();
        x.setInitial(false, 2, 6);
        x.setInitial(true, 0, 8);
        x.fill(4, 1);
        Check.parse(x, "less 1 1 0;out 2");
        x.clear();
        Check.parse(x, "out 2;store 2 1 0");
        x.run(false, 9);
        Check.parse(x, "copy 3 3");
        x.fill(1, 1);
        x.setInitial(false, 7, 4);
        Check.feed(x, "sub 1 2 3");
        return x;
    }

    private static void theBusyOne() {
        String source = "source; 7 1 0 0; 9 2 3 4; 0 0 0 0; 10 0 0 0; 7 5 0 0\n";
        String expanded = "form; 7 1 0 0 0 0 1; 9 2 3 6 0 0 0; 0 0 0 0 1 0 0; 0 0 0 0 0 0 0; 10 0 0 0 0 0 0; "
                + "0 0 0 0 1 0 0; 7 5 0 0 0 0 1\n";
        String filled = "form; 7 1 0 0 0 0 0; 9 2 3 6 0 0 1; 0 0 0 0 1 0 0; 0 0 0 0 0 0 0; 10 0 0 1 0 0 0; "
                + "7 1 0 0 1 0 0; 7 5 0 0 0 0 1\n";
        busyOnes(Part.BUFFER, "10 11 12 13 2source; 4 1 2 3; 0 0 0 0\n");
        busyOnes(Part.SOURCE, "source; 7 2 0 0; 6 2 1 0; 2 3 3 0\n");
        busyOnes(Part.FORM, "form; 7 1 0 0 0 0 0; 9 2 3 7 0 1 1; 7 5 0 0 1 0 0; 0 0 0 0 0 0 0; 10 0 0 1 0 0 0; "
                + "7 1 0 0 1 0 0; 7 5 0 0 0 0 0\n");
        busyOnes(Part.CHANGES, "3 " + filled + "2 " + expanded + "1 form; 1 7 0 7 0 0 0\n0 form\nIllegalStateException");
        busyOnes(Part.TEXT, "out 1;less 2 3 6|nop;nop;jump 0|nop;out 5");
        busyOnes(Part.INITIAL, "initial 0 3 6 0 0 0 0 4 8 0 0 0 0 0 0 0 0 0 0 0 0 0 0 9");
        String none = " IndexOutOfBoundsException";
        busyOnes(Part.KEPT, "1 outputs: 6" + none + none + none
                + " values: 0 3 6 0 0 0 0 0 8 0 0 6 0 0 0 0 0 0 0 0 0 0 0 9");
        busyOnes(Part.SAVED, "5 " + source + expanded + "initial 0 3 0 0 0 0 0 0 0 0 0 0 0 0 0 0 0 0 0 0 0 0 0 9");
    }

    private static void busyOnes(Part part, String due) {
        Check.same(part + " of a busy one", part.of(busy()), due);
    }

    /** The answer must be the one that is due, so that no call is tried that is refused or does nothing. */
    private static void changes(String what, long due, Part.Call call, Part... changed) {
        Set<Part> parts = EnumSet.noneOf(Part.class);
        for (Part part : changed) {
            parts.add(part);
        }
        for (Part part : Part.values()) {
            BranchSlotFiller x = busy();
            Check.same(what, call.of(x), due);
            boolean isSame = part.of(x).equals(part.of(busy()));
            if (isSame == parts.contains(part)) {
                Check.report(what + (isSame ? " leaves " : " changes ") + part);
            }
        }
    }

    private static void theSource() {
        changes("feed", 10, x -> x.feed('1'), Part.BUFFER);
        changes("parse", 1, x -> x.parse(), Part.BUFFER, Part.SOURCE);
        changes("parse of a wrong text", -109, x -> {
            x.feed(' ');
            return x.parse();
        }, Part.BUFFER);
        changes("clear", 3, x -> x.clear(), Part.SOURCE);
    }

    private static void theExpandedForm() {
        changes("expand", 3, x -> x.expand(), Part.FORM, Part.CHANGES);
        changes("undo", 3, x -> x.undo(), Part.FORM, Part.CHANGES);
        changes("undo of both fills, and a fill", 1, x -> {
            x.undo();
            x.undo();
            return x.fill(1, 1);
        }, Part.FORM, Part.CHANGES);
        changes("undo of both fills, and fillAll", 1, x -> {
            x.undo();
            x.undo();
            return x.fillAll(0, 1);
        }, Part.FORM, Part.CHANGES);
        changes("fillAll of none", 0, x -> x.fillAll(0, 1), Part.CHANGES);
        changes("write", 46, x -> x.write(), Part.TEXT);
    }

    private static void theExecution() {
        changes("setInitial of a register", 6, x -> x.setInitial(false, 2, 5), Part.INITIAL);
        changes("setInitial of a cell", 8, x -> x.setInitial(true, 0, 5), Part.INITIAL);
        changes("run of the source", 3, x -> x.run(false, 9), Part.KEPT);
        changes("run of the expanded form", 3, x -> {
            x.setInitial(false, 3, 7);
            return x.run(true, 9);
        }, Part.INITIAL, Part.KEPT);
    }

    private static void snapshots() {
        changes("save", 3, x -> x.save(), Part.SAVED);
        changes("restore", 5, x -> x.restore(), Part.SOURCE, Part.FORM, Part.CHANGES, Part.INITIAL);
    }

    private static void questions() {
        changes("instructions", 3, x -> x.instructions(), NO_PART);
        changes("entries", 7, x -> x.entries(), NO_PART);
        int[] instruction = {6, 2, 1, 0};
        for (int k = 0; k < 4; k++) {
            int what = k;
            changes("instruction", instruction[k], x -> x.instruction(1, what), NO_PART);
        }
        int[] entry = {9, 2, 3, 7, 0, 1, 1};
        for (int k = 0; k < 7; k++) {
            int what = k;
            changes("entry", entry[k], x -> x.entry(1, what), NO_PART);
        }
        int[] count = {2, 0, 1, 1, 1};
        for (int k = 0; k < 5; k++) {
            int what = k;
            changes("count", count[k], x -> x.count(what), NO_PART);
        }
        changes("live", 46, x -> x.live(0), NO_PART);
        changes("isIndependent", 0, x -> x.isIndependent(0, 2) ? 1 : 0, NO_PART);
        for (int k = 0; k < 3; k++) {
            int way = k;
            changes("candidate", 99, x -> Part.told(x, y -> y.candidate(1, way)).startsWith("I") ? 99 : 0, NO_PART);
        }
        changes("text", 'o', x -> x.text(0), NO_PART);
        changes("finalValue of a register", 3, x -> x.finalValue(false, 1), NO_PART);
        changes("finalValue of a cell", 6, x -> x.finalValue(true, 3), NO_PART);
        changes("outputs", 1, x -> x.outputs(), NO_PART);
        changes("output", 6, x -> x.output(0), NO_PART);
        changes("differences", 1, x -> x.differences(5, 50) >= 0 ? 1 : 0, NO_PART);
        changes("meanSteps", 1, x -> x.meanSteps(5, 50) > 0 ? 1 : 0, NO_PART);
        changes("filledShare", 1, x -> (long) x.filledShare(), NO_PART);
    }
}
