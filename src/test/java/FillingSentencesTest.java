import java.util.ArrayList;
import java.util.List;

/** The sentences of Filling that name a boundary case: each one has a test of its own, which begins with it. */
final class FillingSentencesTest {
    public static void main(String[] args) {
        onlyASlotThatHoldsNopCanBeFilled();
        entriesBeforeAreConsideredDownwards();
        branchesSlotsAndHaltEndTheConsidering();
        aTargetIsTheLastOneConsidered();
        aBranchThatIsATargetHasNoneBefore();
        theFirstThatIsNoNop();
        theFirstThatIsIndependentOfAllBetween();
        theFirstThatIsIndependentOfTheBranch();
        eachKindCanPassAndBePassed();
        independentOfWrittenRegisters();
        independentOfMemory();
        independentOfOutput();
        independentInAllPairs();
        fromBeforeMoves();
        theTargetIsNotTheEnd();
        theTargetIsNeitherNopNorBranchNorHalt();
        fromTheTargetCopies();
        theTargetBecomesTheEntryAfter();
        fromTheTargetAnnulsIfConditional();
        fallThroughNeedsACondition();
        fallThroughNeedsAnEntry();
        fallThroughNeedsAKind();
        fallThroughIsNoTarget();
        fallThroughWritesNothingLive();
        fromTheFallThroughPathMoves();
        entriesAfterARemovedOneGetLowerNumbers();
        targetsAfterARemovedOneGetLower();
        Check.finish();
    }

    private static void found(String text, int branch, int way, int due) {
        BranchSlotFiller x = Check.expanded(text);
        Check.same("candidate(" + branch + ", " + way + ") of " + text, x.candidate(branch, way), due);
    }

    private static void none(BranchSlotFiller x, int branch, int way) {
        String what = "(" + branch + ", " + way + ") of " + Check.written(x);
        Check.fails("candidate" + what, Check.NO_ELEMENT, () -> x.candidate(branch, way));
        Check.fails("fill" + what, Check.NO_ELEMENT, () -> x.fill(branch, way));
    }

    private static void none(String text, int branch, int way) {
        none(Check.expanded(text), branch, way);
    }

    /** Fills a slot, and looks at the answer, at the form and at the effects of both forms. */
    private static BranchSlotFiller filled(String text, int branch, int way, int due, String form) {
        BranchSlotFiller x = Check.expanded(text);
        String what = "fill(" + branch + ", " + way + ") of " + text;
        Check.same(what, x.fill(branch, way), due);
        Check.same("the form after " + what, Check.written(x), form);
        Check.same("differences after " + what, x.differences(7, 50), 0);
        return x;
    }

    private static void onlyASlotThatHoldsNopCanBeFilled() {
        Check.sentence("Only a slot that holds nop can be filled");
        String[] texts = {"set 1 1;jump 2", "set 1 1;jump 0", "equal 1 2 2;set 3 1"};
        int[] branches = {1, 1, 0};
        for (int way = 0; way < 3; way++) {
            BranchSlotFiller x = Check.expanded(texts[way]);
            int branch = x.fill(branches[way], way);
            String form = Check.written(x);
            for (int again = 0; again < 3; again++) {
                int other = again;
                Check.fails("candidate in " + form, Check.STATE, () -> x.candidate(branch, other));
                Check.fails("fill in " + form, Check.STATE, () -> x.fill(branch, other));
            }
            Check.same("fillAll", x.fillAll(1, 2), 0);
            Check.same("the form after it", Check.written(x), form);
        }
    }

    private static void entriesBeforeAreConsideredDownwards() {
        Check.sentence("Consider the entries before i, from i - 1 downwards");
        none("jump 1", 0, 0);
        none("less 1 2 1;set 3 1", 0, 0);
        found("set 1 1;jump 2", 1, 0, 0);
        found("set 1 1;set 2 2;set 3 3;jump 4", 3, 0, 2);
        found("set 1 1;set 2 2;set 3 3;equal 3 4 4", 3, 0, 1);
        found("set 1 1;set 3 2;set 3 3;equal 3 4 4", 3, 0, 0);
    }

    private static void branchesSlotsAndHaltEndTheConsidering() {
        Check.sentence("as long as they are neither branches nor slots nor halt");
        none("set 1 1;equal 2 3 3;jump 3", 3, 0);
        none("set 1 1;halt;jump 3", 2, 0);
        none("set 1 1;halt;nop;jump 4", 3, 0);
        found("halt;set 1 1;jump 3", 2, 0, 1);
        found("equal 2 3 3;set 1 1;jump 3", 3, 0, 2);
        BranchSlotFiller x = Check.expanded("set 0 1;set 1 1;equal 2 3 4;jump 4");
        x.fill(2, 0);
        Check.same("a slot that is filled", Check.written(x), "set 0 1;equal 2 3 5|set 1 1;jump 5|nop");
        none(x, 3, 0);
    }

    private static void aTargetIsTheLastOneConsidered() {
        Check.sentence("and until one that is the target of a branch has been considered");
        found("set 1 1;set 2 2;equal 3 4 1", 2, 0, 1);
        found("set 1 1;set 2 2;equal 2 4 0", 2, 0, 0);
        none("set 1 1;set 2 2;equal 2 4 1", 2, 0);
        none("set 1 1;nop;equal 2 4 1", 2, 0);
        found("set 1 1;nop;equal 2 4 0", 2, 0, 0);
        none("jump 2;set 1 1;nop;jump 4", 4, 0);
        found("jump 1;set 1 1;nop;jump 4", 4, 0, 2);
        found("jump 3;set 1 1;nop;set 2 1;jump 5", 5, 0, 4);
        none("jump 3;set 1 1;nop;set 2 1;equal 2 3 5", 5, 0);
    }

    private static void aBranchThatIsATargetHasNoneBefore() {
        Check.sentence("If the branch i is itself the target of a branch, no entry is considered");
        none("set 1 1;jump 1", 1, 0);
        none("set 1 1;equal 2 3 1", 1, 0);
        none("jump 2;set 1 1;jump 3", 3, 0);
        none("set 1 1;jump 3;jump 1", 1, 0);
        found("set 1 1;jump 3;jump 0", 1, 0, 0);
    }

    private static void theFirstThatIsNoNop() {
        Check.sentence("The candidate is the first of them that is no nop");
        none("nop;jump 2", 1, 0);
        none("nop;nop;nop;equal 1 2 4", 3, 0);
        found("set 1 1;nop;nop;jump 4", 3, 0, 0);
        found("set 1 1;nop;set 2 1;nop;jump 5", 4, 0, 2);
    }

    private static void theFirstThatIsIndependentOfAllBetween() {
        Check.sentence("and is independent of all entries between it and the branch");
        none("set 1 1;copy 2 1;equal 2 3 3", 2, 0);
        none("copy 4 5;nop;copy 2 4;equal 2 3 4", 3, 0);
        none("copy 4 5;copy 2 4;nop;equal 2 3 4", 3, 0);
        none("copy 4 2;copy 2 5;set 3 1;equal 2 3 4", 3, 0);
        none("store 2 3 0;load 5 6 0;equal 5 5 3", 2, 0);
        none("set 4 1;add 4 5 2;set 2 9;equal 2 3 4", 3, 0);
        found("out 1;copy 5 6;add 6 5 5;less 6 6 4", 3, 0, 0);
        found("set 4 1;set 3 1;set 2 2;equal 2 3 4", 3, 0, 0);
        found("load 7 6 0;load 5 6 0;equal 5 5 3", 2, 0, 0);
    }

    private static void theFirstThatIsIndependentOfTheBranch() {
        Check.sentence("and of the branch itself");
        none("set 1 1;equal 1 2 2", 1, 0);
        none("set 2 1;equal 1 2 2", 1, 0);
        none("set 1 1;less 1 2 2", 1, 0);
        none("set 2 1;less 1 2 2", 1, 0);
        found("set 3 1;less 1 2 2", 1, 0, 0);
        found("set 1 1;jump 2", 1, 0, 0);
        found("set 0 1;jump 2", 1, 0, 0);
        found("copy 3 1;equal 1 1 2", 1, 0, 0);
        found("store 1 2 3;equal 1 2 2", 1, 0, 0);
        found("out 1;equal 1 2 2", 1, 0, 0);
    }

    private static void eachKindCanPassAndBePassed() {
        Check.sentence("The first that is no nop and is independent of all entries between, for each kind");
        String[] candidates = {"set 3 4", "copy 3 4", "add 3 4 5", "sub 3 4 5", "load 3 4 5", "store 3 4 5", "out 3"};
        for (String kind : candidates) {
            found(kind + ";jump 2", 1, 0, 0);
            found(kind + ";equal 1 2 2", 1, 0, 0);
            found("halt;" + kind + ";less 1 2 3", 2, 0, 1);
            found(kind + ";set 1 1;less 1 2 3", 2, 0, 0);
        }
        for (String kind : new String[] {"set 1 4", "copy 1 4", "add 1 4 5", "sub 1 4 5", "load 1 4 5"}) {
            none(kind + ";less 1 2 2", 1, 0);
            found("set 3 1;" + kind + ";less 1 2 3", 2, 0, 0);
            none("copy 1 6;" + kind + ";less 1 2 3", 2, 0);
            none("out 1;" + kind + ";less 1 2 3", 2, 0);
            if (!kind.startsWith("set")) {
                none("set 4 6;" + kind + ";less 1 2 3", 2, 0);
            }
        }
        // A store or an out that is no candidate, for it can't pass the entry after it.
        found("set 3 1;store 5 6 0;load 1 6 0;less 1 2 4", 3, 0, 0);
        none("load 3 4 0;store 5 6 0;load 1 6 0;less 1 2 4", 3, 0);
        found("set 3 1;out 1;set 1 5;less 1 2 4", 3, 0, 0);
        none("out 3;out 1;set 1 5;less 1 2 4", 3, 0);
    }

    private static void independent(String one, String two, boolean due) {
        BranchSlotFiller x = Check.expanded(one + ";" + two);
        int k = x.entry(1, 4) == 1 ? 2 : 1;
        Check.same(one + " and " + two, x.isIndependent(0, k) ? 1 : 0, due ? 1 : 0);
        Check.same(two + " and " + one, x.isIndependent(k, 0) ? 1 : 0, due ? 1 : 0);
    }

    private static void independentOfWrittenRegisters() {
        Check.sentence("neither writes a register that the other one reads or writes");
        String[] writes = {"set 0 1", "copy 0 7", "add 0 7 7", "sub 0 7 7", "load 0 7 0"};
        for (String one : writes) {
            for (String two : writes) {
                independent(one, two, false);
            }
            independent(one, "copy 1 0", false);
            independent(one, "add 1 0 2", false);
            independent(one, "add 1 2 0", false);
            independent(one, "sub 1 0 2", false);
            independent(one, "sub 1 2 0", false);
            independent(one, "load 1 0 2", false);
            independent(one, "store 0 1 2", false);
            independent(one, "store 1 0 2", false);
            independent(one, "out 0", false);
            independent(one, "equal 0 1 2", false);
            independent(one, "equal 1 0 2", false);
            independent(one, "less 0 1 2", false);
            independent(one, "less 1 0 2", false);
            independent(one, "set 1 0", true);
            independent(one, "load 1 2 0", true);
            independent(one, "equal 1 2 0", true);
            independent(one, "jump 0", true);
            independent(one, "nop", true);
            independent(one, "halt", true);
        }
        independent("copy 1 2", "copy 3 2", true);
        independent("set 7 1", "add 1 7 2", false);
    }

    private static void independentOfMemory() {
        Check.sentence("and not both of them access the memory, with at least one store");
        independent("store 1 2 0", "store 3 4 5", false);
        independent("store 1 2 0", "load 3 4 5", false);
        independent("load 1 2 0", "load 3 4 5", true);
        independent("store 1 2 0", "copy 3 4", true);
        independent("store 1 2 0", "out 1", true);
        independent("store 1 2 0", "less 1 2 0", true);
    }

    private static void independentOfOutput() {
        Check.sentence("and not both of them are out");
        independent("out 1", "out 2", false);
        independent("out 1", "out 1", false);
        independent("out 1", "copy 2 1", true);
        independent("out 1", "equal 1 1 0", true);
        none("out 1;out 2;copy 2 3;equal 2 2 4", 3, 0);
    }

    private static void independentInAllPairs() {
        Check.sentence("Two instructions are independent if .. (all kinds, and all ways to share registers)");
        List<String> texts = new ArrayList<>(List.of("nop", "jump 0", "halt"));
        for (int a = 0; a < 3; a++) {
            texts.add("set " + a + " 1");
            texts.add("out " + a);
            for (int b = 0; b < 3; b++) {
                for (String name : new String[] {"copy *", "load * 0", "store * 1", "equal * 0", "less * 0"}) {
                    texts.add(name.replace("*", a + " " + b));
                }
                for (int c = 0; c < 3; c++) {
                    texts.add("add " + a + " " + b + " " + c);
                    texts.add("sub " + a + " " + b + " " + c);
                }
            }
        }
        for (String one : texts) {
            for (String two : texts) {
                BranchSlotFiller x = Check.expanded(one + ";" + two);
                int k = x.entry(1, 4) == 1 ? 2 : 1;
                Check.same(one + " and " + two, x.isIndependent(0, k) ? 1 : 0, areIndependent(one, two) ? 1 : 0);
            }
        }
    }

    private static boolean areIndependent(String one, String two) {
        String writtenByOne = written(one);
        String writtenByTwo = written(two);
        for (char register = '0'; register <= '2'; register++) {
            boolean isWrittenByOne = writtenByOne.indexOf(register) >= 0;
            boolean isWrittenByTwo = writtenByTwo.indexOf(register) >= 0;
            if (isWrittenByOne && (isWrittenByTwo || read(two).indexOf(register) >= 0)) {
                return false;
            }
            if (isWrittenByTwo && read(one).indexOf(register) >= 0) {
                return false;
            }
        }
        boolean isAccess = one.matches("(load|store) .*") && two.matches("(load|store) .*");
        boolean isStore = one.startsWith("store") || two.startsWith("store");
        return !(isAccess && isStore) && !(one.startsWith("out") && two.startsWith("out"));
    }

    private static String written(String text) {
        return text.matches("(set|copy|add|sub|load) .*") ? text.split(" ")[1] : "";
    }

    private static String read(String text) {
        String[] words = text.split(" ");
        switch (words[0]) {
            case "copy":
            case "load":
                return words[2];
            case "add":
            case "sub":
                return words[2] + words[3];
            case "store":
            case "equal":
            case "less":
                return words[1] + words[2];
            case "out":
                return words[1];
            default:
                return "";
        }
    }

    private static void fromBeforeMoves() {
        Check.sentence("The candidate is removed and becomes the slot. The branch is not annulling then");
        BranchSlotFiller x = filled("load 1 2 3;equal 4 5 2;out 1", 1, 0, 0, "equal 4 5 2|load 1 2 3;out 1");
        Check.same("entries", x.entries(), 3);
        Check.same("the branch", Check.entry(x, 0), "8 4 5 2 0 0 0");
        Check.same("the slot", Check.entry(x, 1), "5 1 2 3 1 0 0");
        BranchSlotFiller full = Check.parsed("set 1 1;" + Check.repeated("jump 14", ";", 13));
        Check.parse(full, Check.repeated("jump 14", ";", 14));
        Check.parse(full, "jump 0;jump 2");
        Check.same("the most entries but one", full.expand(), 59);
        Check.same("the first branch", full.fill(1, 0), 0);
        Check.same("entries then", full.entries(), 58);
    }

    private static void theTargetIsNotTheEnd() {
        Check.sentence("The candidate is the entry at the target of the branch, if the target is not the end");
        none("jump 1", 0, 1);
        none("set 1 1;less 1 2 2", 1, 1);
        found("jump 1;out 1", 0, 1, 2);
        found("out 1;jump 0", 1, 1, 0);
        BranchSlotFiller x = Check.expanded("out 1;out 2;out 3");
        x.clear();
        Check.parse(x, "jump 1");
        x.expand();
        Check.same("where an earlier form had an out, the end", x.entries(), 2);
        none(x, 0, 1);
    }

    private static void theTargetIsNeitherNopNorBranchNorHalt() {
        Check.sentence("and the entry is neither nop nor a branch nor halt");
        for (String kind : new String[] {"nop", "equal 1 2 0", "less 1 2 0", "jump 0", "halt"}) {
            none("jump 2;nop;" + kind, 0, 1);
        }
        String[] right = {"set 1 1", "copy 1 2", "add 1 2 3", "sub 1 2 3", "load 1 2 3", "store 1 2 3", "out 1"};
        for (String kind : right) {
            found("jump 2;nop;" + kind, 0, 1, 3);
        }
    }

    private static void fromTheTargetCopies() {
        Check.sentence("A copy of it becomes the slot");
        BranchSlotFiller x = filled("jump 1;store 1 2 3;out 1", 0, 1, 0, "jump 3|store 1 2 3;store 1 2 3;out 1");
        Check.same("entries", x.entries(), 4);
        Check.same("the slot", Check.entry(x, 1), "6 1 2 3 1 0 0");
        Check.same("the entry itself", Check.entry(x, 2), "6 1 2 3 0 0 0");
        BranchSlotFiller y = filled("copy 1 2;less 3 4 0", 1, 1, 1, "copy 1 2;less* 3 4 1|copy 1 2");
        Check.same("the entry itself", Check.entry(y, 0), "2 1 2 0 0 0 0");
    }

    private static void theTargetBecomesTheEntryAfter() {
        Check.sentence("and the target of the branch becomes the entry after it");
        filled("jump 2;out 1;out 2;out 3", 0, 1, 0, "jump 4|out 2;out 1;out 2;out 3");
        BranchSlotFiller end = filled("jump 2;out 1;out 2", 0, 1, 0, "jump 4|out 2;out 1;out 2");
        Check.same("the end", end.entries(), 4);
        filled("jump 2;halt;out 3;nop;out 4", 0, 1, 0, "jump 4|out 3;halt;out 3;nop;out 4");
        filled("jump 2;halt;out 3;halt;out 4", 0, 1, 0, "jump 4|out 3;halt;out 3;halt;out 4");
        filled("jump 2;halt;out 3;jump 1;out 4", 0, 1, 0, "jump 4|out 3;halt;out 3;jump 2|nop;out 4");
        BranchSlotFiller self = filled("out 1;less 2 3 0;out 4", 1, 1, 1, "out 1;less* 2 3 1|out 1;out 4");
        Check.same("a branch before it is its own target", self.entry(1, 6), 1);
        BranchSlotFiller two = Check.expanded("jump 2;jump 2;out 1");
        two.fill(0, 1);
        Check.same("the other branch stays", Check.written(two), "jump 5|out 1;jump 4|nop;out 1");
    }

    private static void fromTheTargetAnnulsIfConditional() {
        Check.sentence("The branch is annulling then if it is conditional");
        Check.same("equal", filled("equal 1 2 1;out 1", 0, 1, 0, "equal* 1 2 3|out 1;out 1").entry(0, 5), 1);
        Check.same("less", filled("less 1 2 1;out 1", 0, 1, 0, "less* 1 2 3|out 1;out 1").entry(0, 5), 1);
        BranchSlotFiller jump = filled("jump 1;out 1", 0, 1, 0, "jump 3|out 1;out 1");
        Check.same("jump", jump.entry(0, 5), 0);
        Check.same("annulling branches", jump.count(2), 0);
    }

    private static void fallThroughNeedsACondition() {
        Check.sentence("The branch must be conditional");
        none("jump 2;set 1 1;out 2", 0, 2);
        found("equal 1 2 2;set 1 1;out 2", 0, 2, 2);
        found("less 1 2 2;set 1 1;out 2", 0, 2, 2);
    }

    private static void fallThroughNeedsAnEntry() {
        Check.sentence("The candidate is the entry i + 2, if there is one");
        none("equal 1 2 0", 0, 2);
        none("out 1;less 1 2 0", 1, 2);
        found("out 1;less 1 2 0;set 3 1", 1, 2, 3);
        BranchSlotFiller x = Check.expanded("nop;nop;set 3 1");
        x.clear();
        Check.parse(x, "equal 1 2 0");
        x.expand();
        none(x, 0, 2);
        BranchSlotFiller full = Check.parsed(Check.repeated("jump 14", ";", 14));
        Check.parse(full, Check.repeated("jump 14", ";", 14));
        Check.parse(full, "jump 0;equal 1 2 0");
        Check.same("60 entries", full.expand(), 60);
        Check.fails("nothing after the 60th", Check.NO_ELEMENT, () -> full.candidate(58, 2));
    }

    private static void fallThroughNeedsAKind() {
        Check.sentence("if it is neither nop nor a branch nor halt, nor store, nor out");
        String[] wrong = {"nop", "equal 1 2 0", "less 1 2 0", "jump 0", "halt", "store 1 2 3", "out 1"};
        for (String kind : wrong) {
            none("less 1 2 2;" + kind + ";halt", 0, 2);
        }
        for (String kind : new String[] {"set 1 1", "copy 1 2", "add 1 2 3", "sub 1 2 3", "load 1 2 3"}) {
            found("less 1 2 2;" + kind + ";halt", 0, 2, 2);
        }
    }

    private static void fallThroughIsNoTarget() {
        Check.sentence("if it is not the target of a branch");
        none("equal 1 2 1;set 3 1;halt", 0, 2);
        none("equal 1 2 2;set 3 1;jump 1", 0, 2);
        none("jump 2;less 1 2 3;set 3 1;halt", 2, 2);
        found("equal 1 2 2;set 3 1;jump 2", 0, 2, 2);
        found("equal 1 2 2;set 3 1;jump 0", 0, 2, 2);
    }

    private static void fallThroughWritesNothingLive() {
        Check.sentence("and if it writes no register that is live at the target of the branch i");
        none("equal 1 2 2;set 3 1;out 3", 0, 2);
        found("equal 1 2 2;set 3 1;out 2", 0, 2, 2);
        for (String kind : new String[] {"set 3 4", "copy 3 4", "add 3 4 5", "sub 3 4 5", "load 3 4 5"}) {
            none("equal 1 2 2;" + kind + ";out 3", 0, 2);
            none("less 1 2 2;" + kind + ";out 3", 0, 2);
            found("less 1 2 2;" + kind + ";out 4", 0, 2, 2);
        }
        none("equal 1 2 2;set 0 1;out 0", 0, 2);
        none("equal 1 2 2;set 7 1;out 7", 0, 2);
        found("equal 1 2 2;set 3 1;set 3 2;out 3", 0, 2, 2);
        found("equal 1 2 3;set 3 1;out 3;halt", 0, 2, 2);
        found("equal 1 2 2;set 3 1", 0, 2, 2);
        none("equal 1 2 0;set 1 1", 0, 2);
        found("equal 1 2 0;set 3 1", 0, 2, 2);
        found("equal 1 2 4;set 3 1;out 3;halt;out 4", 0, 2, 2);
    }

    private static void fromTheFallThroughPathMoves() {
        Check.sentence("The candidate is removed and becomes the slot. The branch is not annulling then (way 2)");
        BranchSlotFiller x = filled("equal 1 2 2;load 3 4 5;out 2", 0, 2, 0, "equal 1 2 2|load 3 4 5;out 2");
        Check.same("entries", x.entries(), 3);
        Check.same("the branch", Check.entry(x, 0), "8 1 2 2 0 0 0");
        Check.same("the slot", Check.entry(x, 1), "5 3 4 5 1 0 0");
        BranchSlotFiller last = filled("less 1 2 2;set 3 1", 0, 2, 0, "less 1 2 2|set 3 1");
        Check.same("the end", last.entries(), 2);
    }

    private static void entriesAfterARemovedOneGetLowerNumbers() {
        Check.sentence("When an entry is removed, the entries after it get numbers that are lower by 1");
        BranchSlotFiller x = filled("out 1;set 2 2;jump 3;out 3", 2, 0, 1, "out 1;jump 3|set 2 2;out 3");
        Check.same("the entry before it", Check.entry(x, 0), "7 1 0 0 0 0 0");
        Check.same("the first one after it", Check.entry(x, 1), "10 0 0 3 0 0 0");
        Check.same("the last one", Check.entry(x, 3), "7 3 0 0 0 0 1");
        Check.fails("none more", Check.OUT_OF_BOUNDS, () -> x.entry(4, 0));
        filled("set 1 1;jump 2;out 2", 1, 0, 0, "jump 2|set 1 1;out 2");
        filled("nop;less 1 2 3;set 3 3;out 4", 1, 2, 1, "nop;less 1 2 3|set 3 3;out 4");
    }

    private static void targetsAfterARemovedOneGetLower() {
        Check.sentence("and all targets that are greater than its number become lower by 1");
        BranchSlotFiller x = Check.expanded("jump 2;nop;set 1 1;set 2 1;less 3 4 2");
        Check.same("the branch", x.fill(5, 0), 4);
        Check.same("a target below stays", Check.written(x), "jump 3|nop;nop;set 1 1;less 3 4 3|set 2 1");
        filled("less 3 4 1;nop;set 2 1;jump 4", 4, 0, 3, "less 3 4 2|nop;nop;jump 5|set 2 1");
        filled("less 3 4 2;nop;set 2 1;jump 4", 4, 0, 3, "less 3 4 3|nop;nop;jump 5|set 2 1");
        filled("less 3 4 4;nop;set 2 1;jump 4;out 5", 4, 0, 3, "less 3 4 5|nop;nop;jump 5|set 2 1;out 5");
        filled("nop;less 3 4 3;set 2 1;jump 4;jump 0", 1, 2, 1, "nop;less 3 4 3|set 2 1;jump 5|nop;jump 0|nop");
        filled("jump 4;less 3 4 4;set 2 1;nop;jump 0", 2, 2, 2, "jump 5|nop;less 3 4 5|set 2 1;nop;jump 0|nop");
    }
}
