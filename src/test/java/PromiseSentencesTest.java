/** The sentences of the promises 1 to 28 that name a boundary case: each one has a test of its own. */
final class PromiseSentencesTest {
    private static final int LEAST = Integer.MIN_VALUE;
    private static final int GREATEST = Integer.MAX_VALUE;

    public static void main(String[] args) {
        promise1();
        promise2TakesAnyCharacter();
        promise2Holds120();
        promise3CountsTargetsFromItsText();
        promise3EmptiesTheBuffer();
        promise3KeepsTheExpandedForm();
        promise3AnswersTheNumber();
        promise3LooksAtRegisters();
        promise3LooksAtOffsets();
        promise3LooksAtTargets();
        promise3LooksAtTheNumber();
        promise4And5();
        promise6();
        promise7();
        promise8();
        promise9();
        promise9CountsBranches();
        promise10();
        promise10Reaches();
        promise11();
        promise12();
        promise13And14();
        promise14AnswersTheBranch();
        promise15TriesInOrder();
        promise15GoesFromTheFirstToTheLast();
        promise15LooksAtTheWays();
        promise16TakesBackTheLatest();
        promise16TakesBackAtMost8();
        promise17And18();
        promise19();
        promise20Limits();
        promise20Keeps();
        promise20BeginsAnew();
        promise21To23();
        promise24Draws();
        promise24Compares();
        promise25();
        promise26();
        promise27And28();
        promise28ForgetsChanges();
        Check.finish();
    }

    private static BranchSlotFiller full() {
        return Check.parsed(Check.repeated("nop", ";", 30));
    }

    /** 30 branches in 60 entries: 13 of them go to entry 28, 14 to entry 56 and so on. */
    private static BranchSlotFiller fullOfBranches() {
        BranchSlotFiller x = Check.parsed(Check.repeated("jump 14", ";", 14));
        Check.parse(x, Check.repeated("jump 14", ";", 14));
        Check.parse(x, "jump 0;jump 2");
        x.expand();
        return x;
    }

    /** 30 conditional branches in 60 entries, all of which go to the first one of their text; the end can be reached. */
    private static BranchSlotFiller fullOfConditions() {
        BranchSlotFiller x = Check.parsed(Check.repeated("less 0 7 0", ";", 10));
        Check.parse(x, Check.repeated("less 0 7 0", ";", 10));
        Check.parse(x, Check.repeated("less 0 7 0", ";", 10));
        x.expand();
        return x;
    }

    private static void promise1() {
        Check.sentence("Promise 1: a workbench with an empty source and an empty expanded form");
        BranchSlotFiller x = new BranchSlotFiller();
        Check.same("instructions", x.instructions(), 0);
        Check.same("entries", x.entries(), 0);
        Check.same("clear", x.clear(), 0);
        Check.same("parse of an empty buffer", x.parse(), 0);
        Check.same("save", x.save(), 0);
        BranchSlotFiller one = Check.expanded("out 1");
        Check.same("another one is another one", new BranchSlotFiller().entries() + one.entries(), 1);
    }

    private static void promise2TakesAnyCharacter() {
        Check.sentence("Promise 2: letter: any character");
        for (int letter : new int[] {0, 1, '\n', ' ', '/', ':', '`', '{', 127, 128, 255, 256, 0xd800, 0xdfff, 0xffff}) {
            BranchSlotFiller x = new BranchSlotFiller();
            Check.same("feed of " + letter, x.feed((char) letter), 1);
            Check.same("feed of n", x.feed('n'), 2);
            Check.same("parse of " + letter, x.parse(), -100);
        }
        String text = "nop;set 1 -5";
        int[] due = {0, 0, 0, 3, 4, 4, 4, 7, 8, 9, 10, 11};
        for (int i = 0; i < due.length; i++) {
            BranchSlotFiller x = new BranchSlotFiller();
            for (int k = 0; k < due.length; k++) {
                x.feed((char) (text.charAt(k) + (k == i ? 256 : 0)));
            }
            Check.same("parse with a character above 255 at " + i, x.parse(), -100 - due[i]);
        }
    }

    private static void promise2Holds120() {
        Check.sentence("Promise 2: IllegalStateException if the buffer already holds 120 characters");
        BranchSlotFiller x = new BranchSlotFiller();
        for (int i = 1; i <= 120; i++) {
            Check.same("feed " + i, x.feed(i % 4 == 0 ? ';' : "nop".charAt(i % 4 - 1)), i);
        }
        Check.fails("feed 121", Check.STATE, () -> x.feed('n'));
        Check.fails("feed 121 again", Check.STATE, () -> x.feed('n'));
        Check.same("the 120 characters", x.parse(), -220);
        Check.same("feed after parse", x.feed('n'), 1);
        BranchSlotFiller y = new BranchSlotFiller();
        Check.feed(y, Check.repeated("out 7", ";", 19) + ";out 07");
        Check.fails("feed 121", Check.STATE, () -> y.feed('7'));
        Check.same("120 characters that are right", y.parse(), 20);
        Check.same("the last one", Check.instruction(y, 19), "7 7 0 0");
    }

    private static void promise3CountsTargetsFromItsText() {
        Check.sentence("Promise 3: where a target in the text is counted from the first instruction of the text");
        BranchSlotFiller x = Check.parsed("jump 0;jump 1");
        Check.same("parse", Check.parse(x, "jump 0;equal 1 2 1;less 1 2 2;jump 4"), 4);
        int[] due = {0, 1, 2, 3, 4, 6};
        for (int i = 0; i < due.length; i++) {
            Check.same("the target of " + i, x.instruction(i, 3), due[i]);
        }
        x.clear();
        Check.parse(x, "jump 0");
        Check.same("after clear", x.instruction(0, 3), 0);
        BranchSlotFiller no = Check.parsed("nop;nop");
        Check.parse(no, "set 1 1;load 1 2 1;add 1 2 3");
        Check.same("c of set is no target", no.instruction(2, 3), 1);
        Check.same("c of load is no target", no.instruction(3, 3), 1);
        Check.same("c of add is no target", no.instruction(4, 3), 3);
    }

    private static void promise3EmptiesTheBuffer() {
        Check.sentence("Promise 3: the buffer is empty afterwards, also after an error or an exception");
        BranchSlotFiller x = full();
        Check.same("after instructions", x.feed('a'), 1);
        Check.same("an error", x.parse(), -100);
        Check.same("after an error", x.feed('n'), 1);
        Check.feed(x, "op");
        Check.fails("too many", Check.STATE, x::parse);
        Check.same("after too many", x.feed('o'), 1);
        Check.feed(x, "ut 8");
        Check.fails("out of range", Check.ARGUMENT, x::parse);
        Check.same("after out of range", x.parse(), 0);
        Check.same("after an empty text", x.feed(';'), 1);
        BranchSlotFiller longer = Check.parsed("jump 0;set 1 -5");
        Check.same("nothing of a longer text is there", Check.parse(longer, "jump"), -104);
        Check.parse(longer, "set 1 -5");
        Check.same("nothing of a longer text is there", Check.parse(longer, "set 1 "), -106);
        Check.parse(longer, "set 1 -5");
        Check.same("nothing of a longer text is there", Check.parse(longer, "set 1 -"), -107);
        Check.parse(longer, "nop;nop");
        Check.same("nothing of a longer text is there", Check.parse(longer, "nop"), 1);
    }

    private static void promise3KeepsTheExpandedForm() {
        Check.sentence("Promise 3: the expanded form stays");
        BranchSlotFiller x = Check.expanded("out 1;jump 2");
        x.fill(1, 0);
        Check.parse(x, "jump 0;out 2");
        Check.same("the form", Check.written(x), "jump 2|out 1");
        Check.same("a new form", x.expand(), 6);
    }

    private static void promise3AnswersTheNumber() {
        Check.sentence("Promise 3: the number of instructions of the text; -100 minus the error position");
        BranchSlotFiller x = new BranchSlotFiller();
        Check.same("none", x.parse(), 0);
        Check.same("one", Check.parse(x, "halt"), 1);
        Check.same("28 more", Check.parse(x, Check.repeated("nop", ";", 28)), 28);
        Check.same("one more", Check.parse(x, "halt"), 1);
        Check.same("30", full().instructions(), 30);
        Check.same("an error at 0", Check.parse(x, "a"), -100);
        Check.same("an error at 3", Check.parse(x, "nop,"), -103);
        Check.same("an error at 120", Check.parse(x, Check.repeated("nop;", "", 30)), -220);
    }

    private static void outOfRange(String text) {
        BranchSlotFiller x = Check.parsed("nop");
        Check.feed(x, text);
        Check.fails("parse \"" + text + "\"", Check.ARGUMENT, x::parse);
        Check.same("instructions after \"" + text + "\"", x.instructions(), 1);
    }

    private static void inRange(String text, int due) {
        Check.same("parse \"" + text + "\"", Check.parse(new BranchSlotFiller(), text), due);
    }

    private static void promise3LooksAtRegisters() {
        Check.sentence("Promise 3: IllegalArgumentException if an operand is out of range: a register above 7");
        String[] texts = {"set * 1", "copy * 0", "copy 0 *", "add * 0 0", "add 0 * 0", "add 0 0 *", "sub * 0 0",
            "sub 0 * 0", "sub 0 0 *", "load * 0 0", "load 0 * 0", "store * 0 0", "store 0 * 0", "out *", "equal * 0 0",
            "equal 0 * 0", "less * 0 0", "less 0 * 0"};
        for (String text : texts) {
            inRange(text.replace("*", "7"), 1);
            inRange(text.replace("*", "0"), 1);
            outOfRange(text.replace("*", "8"));
            outOfRange(text.replace("*", "99"));
            outOfRange("nop;" + text.replace("*", "8"));
            outOfRange(text.replace("*", "8") + ";nop");
        }
    }

    private static void promise3LooksAtOffsets() {
        Check.sentence("Promise 3: an operand c of load or store above 15");
        for (String kind : new String[] {"load 0 0 ", "store 0 0 "}) {
            inRange(kind + "0", 1);
            inRange(kind + "8", 1);
            inRange(kind + "15", 1);
            outOfRange(kind + "16");
            outOfRange(kind + "99");
        }
        inRange("set 0 16", 1);
    }

    private static void promise3LooksAtTargets() {
        Check.sentence("Promise 3: a target above the number of instructions of the text");
        for (String kind : new String[] {"jump ", "equal 0 0 ", "less 0 0 "}) {
            inRange(kind + "0", 1);
            inRange(kind + "1", 1);
            outOfRange(kind + "2");
            inRange("nop;" + kind + "2;nop", 3);
            inRange("nop;" + kind + "3;nop", 3);
            outOfRange("nop;" + kind + "4;nop");
            outOfRange(kind + "99");
        }
        inRange(Check.repeated("nop", ";", 27) + ";jump 28", 28);
        outOfRange(Check.repeated("nop", ";", 26) + ";jump 28");
        outOfRange(Check.repeated("nop", ";", 28) + ";out 8");
        outOfRange("out 8;" + Check.repeated("nop", ";", 28));
    }

    private static void promise3LooksAtTheNumber() {
        Check.sentence("Promise 3: IllegalStateException if the source would have more than 30 instructions");
        BranchSlotFiller x = full();
        Check.feed(x, "nop");
        Check.fails("31", Check.STATE, x::parse);
        BranchSlotFiller y = Check.parsed("halt");
        Check.feed(y, Check.repeated("nop", ";", 30));
        Check.fails("1 and 30", Check.STATE, y::parse);
        Check.same("nothing of the text", y.instructions(), 1);
        Check.same("1 and 29", Check.parse(y, Check.repeated("nop", ";", 29)), 29);
        y.clear();
        Check.same("30 after clear", Check.parse(y, Check.repeated("nop", ";", 30)), 30);
    }

    private static void promise4And5() {
        Check.sentence("Promise 4: makes the source empty; the number of instructions that it had");
        BranchSlotFiller x = full();
        Check.same("full", x.clear(), 30);
        Check.same("instructions", x.instructions(), 0);
        Check.same("empty", x.clear(), 0);
        Check.same("a run", x.run(false, 1), 0);
        Check.same("one", Check.parsed("halt").clear(), 1);
        Check.sentence("Promise 5: the number of instructions");
        Check.same("none", new BranchSlotFiller().instructions(), 0);
        Check.same("one", Check.parsed("halt").instructions(), 1);
        Check.same("30", full().instructions(), 30);
    }

    private static void promise6() {
        BranchSlotFiller x = Check.parsed("add 1 2 3;less 4 5 2");
        Check.sentence("Promise 6: what: 0 the kind, 1 to 3 the operands a, b and c");
        Check.same("the first one", Check.instruction(x, 0), "3 1 2 3");
        Check.same("the last one", Check.instruction(x, 1), "9 4 5 2");
        Check.sentence("Promise 6: IndexOutOfBoundsException if there is no such instruction");
        for (int i : new int[] {LEAST, -1, 2, 3, 30, GREATEST}) {
            Check.fails("instruction " + i, Check.OUT_OF_BOUNDS, () -> x.instruction(i, 0));
        }
        BranchSlotFiller full = full();
        Check.same("the 30th", full.instruction(29, 0), 0);
        Check.fails("the 31st", Check.OUT_OF_BOUNDS, () -> full.instruction(30, 0));
        Check.sentence("Promise 6: IllegalArgumentException if what is out of range");
        for (int what : new int[] {LEAST, -1, 4, 5, 6, GREATEST}) {
            Check.fails("what " + what, Check.ARGUMENT, () -> x.instruction(0, what));
        }
    }

    private static void promise7() {
        Check.sentence("Promise 7: each branch followed by a slot, where targets are the corresponding entries");
        Check.same("nothing", new BranchSlotFiller().expand(), 0);
        BranchSlotFiller all = fullOfBranches();
        Check.same("the most entries", all.entries(), 60);
        Check.same("the first branch", Check.entry(all, 0), "10 0 0 28 0 0 0");
        Check.same("the last branch", Check.entry(all, 58), "10 0 0 60 0 0 0");
        Check.same("the last slot", Check.entry(all, 59), "0 0 0 0 1 0 0");
        Check.same("no branches", full().expand(), 30);
        BranchSlotFiller x = Check.expanded("less 1 2 3;jump 0;out 1");
        Check.same("forwards, to the end and backwards", Check.written(x), "less 1 2 5|nop;jump 0|nop;out 1");
        Check.sentence("Promise 7: not annulling. What was filled before is lost");
        BranchSlotFiller filled = Check.expanded("out 1;less 1 2 0;set 3 1;jump 4");
        filled.fill(1, 1);
        filled.fill(4, 0);
        Check.same("the filled form", Check.written(filled), "out 1;less* 1 2 1|out 1;jump 5|set 3 1");
        Check.same("expand", filled.expand(), 6);
        Check.same("the form", Check.written(filled), "out 1;less 1 2 0|nop;set 3 1;jump 6|nop");
        Check.same("annulling branches", filled.count(2), 0);
    }

    private static void promise8() {
        Check.sentence("Promise 8: the number of entries");
        Check.same("none", new BranchSlotFiller().entries(), 0);
        Check.same("60", fullOfBranches().entries(), 60);
        BranchSlotFiller x = Check.expanded("out 1;jump 2");
        Check.same("3", x.entries(), 3);
        x.fill(1, 0);
        Check.same("one less", x.entries(), 2);
        x.undo();
        Check.same("3 again", x.entries(), 3);
    }

    private static void promise9() {
        BranchSlotFiller x = Check.expanded("add 1 2 3;less 4 5 0");
        x.fill(1, 1);
        Check.sentence("Promise 9: what: 0 the kind, 1 to 3 the operands; 4: 1 for a slot; 5: 1 for an annulling branch");
        Check.same("the first one", Check.entry(x, 0), "3 1 2 3 0 0 0");
        Check.same("an annulling branch", Check.entry(x, 1), "9 4 5 1 0 1 1");
        Check.same("a slot", Check.entry(x, 2), "3 1 2 3 1 0 0");
        Check.sentence("Promise 9: IndexOutOfBoundsException if there is no such entry");
        for (int i : new int[] {LEAST, -1, 3, 4, 60, GREATEST}) {
            Check.fails("entry " + i, Check.OUT_OF_BOUNDS, () -> x.entry(i, 0));
            Check.fails("entry " + i, Check.OUT_OF_BOUNDS, () -> x.entry(i, 6));
        }
        BranchSlotFiller full = fullOfBranches();
        Check.fails("the 61st", Check.OUT_OF_BOUNDS, () -> full.entry(60, 4));
        Check.sentence("Promise 9: IllegalArgumentException if what is out of range");
        for (int what : new int[] {LEAST, -1, 7, 8, GREATEST}) {
            Check.fails("what " + what, Check.ARGUMENT, () -> x.entry(0, what));
        }
    }

    private static void promise9CountsBranches() {
        Check.sentence("Promise 9: 6 the number of branches of which the entry is the target");
        BranchSlotFiller x = fullOfBranches();
        Check.same("the first entry", x.entry(0, 6), 0);
        Check.same("an entry in the middle", x.entry(28, 6), 14);
        Check.same("a slot", x.entry(29, 6), 0);
        Check.same("a later entry", x.entry(56, 6), 15);
        Check.same("the 60 entries' last branch counts", fullOfConditions().entry(40, 6), 10);
        BranchSlotFiller most = Check.parsed(Check.repeated("jump 0", ";", 17));
        Check.same("the first entry of the greatest text of jumps", most.expand(), 34);
        Check.same("the most branches", most.entry(0, 6), 17);
        Check.same("the next entry", most.entry(2, 6), 0);
        BranchSlotFiller end = Check.expanded("out 1;jump 2");
        Check.same("before the end", end.entry(2, 6), 0);
        BranchSlotFiller numbers = Check.expanded("set 0 2;add 0 0 2;halt");
        Check.same("c of others is no target", numbers.entry(2, 6), 0);
    }

    private static void counts(BranchSlotFiller x, String due) {
        StringBuilder text = new StringBuilder();
        for (int what = 0; what <= 4; what++) {
            text.append(what == 0 ? "" : " ").append(x.count(what));
        }
        Check.same("counts", text.toString(), due);
    }

    private static void promise10() {
        Check.sentence("Promise 10: branches; slots that hold nop; annulling branches; nops; entries never reached");
        counts(new BranchSlotFiller(), "0 0 0 0 0");
        counts(Check.expanded("out 1"), "0 0 0 0 0");
        counts(Check.expanded("nop"), "0 0 0 1 0");
        counts(Check.expanded("jump 1"), "1 1 0 1 0");
        counts(Check.expanded("jump 0;nop"), "1 1 0 2 1");
        counts(fullOfBranches(), "30 30 0 30 27");
        BranchSlotFiller x = Check.expanded("nop;out 1;less 1 2 1;equal 1 2 1;jump 1;halt");
        counts(x, "3 3 0 4 1");
        x.fillAll(1, 0);
        counts(x, "3 0 2 1 1");
        Check.same("the form", Check.written(x),
                "nop;out 1;less* 1 2 2|out 1;equal* 1 2 2|out 1;jump 2|out 1;halt");
        BranchSlotFiller late = Check.parsed(Check.repeated("jump 14", ";", 14));
        Check.parse(late, Check.repeated("jump 14", ";", 14));
        Check.parse(late, "out 1;less 1 2 0");
        late.expand();
        late.fill(57, 1);
        counts(late, "29 28 1 28 26");
        BranchSlotFiller first = Check.expanded("less 1 2 1;out 1");
        first.fill(0, 1);
        counts(first, "1 0 1 0 0");
        Check.sentence("Promise 10: IllegalArgumentException if what is out of range");
        for (int what : new int[] {LEAST, -1, 5, 6, GREATEST}) {
            Check.fails("count " + what, Check.ARGUMENT, () -> x.count(what));
        }
    }

    private static void unreached(String text, int due) {
        Check.same("entries never reached in " + text, Check.expanded(text).count(4), due);
    }

    private static void promise10Reaches() {
        Check.sentence("Promise 10: 4 the entries that are no slots and that no execution could reach if each conditional "
                + "branch could be taken or not");
        unreached("halt", 0);
        unreached("halt;halt", 1);
        unreached("jump 1;halt", 0);
        unreached("jump 2;halt", 1);
        unreached("jump 0;nop;jump 1", 2);
        unreached("less 1 1 2;halt;nop", 0);
        unreached("equal 1 1 2;halt;nop", 0);
        unreached("set 1 3;halt;nop;nop", 2);
        unreached("load 1 2 3;halt;nop;nop", 2);
        unreached("jump 3;out 1;jump 4;jump 1", 0);
        unreached("equal 1 2 4;jump 3;jump 5;less 1 2 2;halt;out 1", 0);
        unreached("equal 1 2 5;jump 3;jump 6;less 1 2 2;nop;halt;out 1", 0);
        unreached("jump 5;halt;jump 1;jump 2;jump 3;jump 4", 0);
        unreached("jump 5;halt;jump 1;jump 2;jump 2;jump 4", 1);
        Check.same("60 entries, and the end after them", fullOfConditions().count(4), 0);
        BranchSlotFiller x = Check.expanded("out 1;out 2;out 3");
        Check.same("all are reached", x.count(4), 0);
        x.clear();
        Check.parse(x, "halt;out 1;out 2");
        x.expand();
        Check.same("in another form they are not", x.count(4), 2);
        // The target is the only way to the entry after it, and no way to the entry itself any more.
        BranchSlotFiller filled = Check.expanded("jump 2;halt;set 1 1;halt");
        filled.fill(0, 1);
        Check.same("an entry that was copied", filled.count(4), 2);
    }

    private static void promise11() {
        Check.sentence("Promise 11: the set of registers, bit r for register r");
        for (int r = 0; r < 8; r++) {
            Check.same("register " + r, Check.expanded("out " + r).live(0), 1 << r);
        }
        BranchSlotFiller all = Check.expanded("out 0;out 1;out 2;out 3;out 4;out 5;out 6;out 7");
        Check.same("all", all.live(0), 255);
        Check.sentence("Promise 11: the entry, or the number of entries for the end");
        Check.same("the end", all.live(8), 0);
        Check.same("the end of nothing", new BranchSlotFiller().live(0), 0);
        BranchSlotFiller full = fullOfBranches();
        Check.same("the end of 60", full.live(60), 0);
        BranchSlotFiller conditions = fullOfConditions();
        Check.same("the first one of 60", conditions.live(0), 129);
        Check.same("the last branch of 60", conditions.live(58), 129);
        Check.same("the end of 60 that can be reached", conditions.live(60), 0);
        BranchSlotFiller last = Check.parsed(Check.repeated("jump 14", ";", 14));
        Check.parse(last, Check.repeated("jump 15", ";", 15));
        Check.parse(last, "equal 1 2 0");
        Check.same("60 entries", last.expand(), 60);
        Check.same("what the last branch of 60 alone reads", last.live(58), 6);
        Check.same("what is read there is live before the first one", last.live(0), 6);
        Check.sentence("Promise 11: IndexOutOfBoundsException if there is no such entry");
        for (int i : new int[] {LEAST, -1, 61, 62, GREATEST}) {
            Check.fails("live " + i, Check.OUT_OF_BOUNDS, () -> full.live(i));
        }
        Check.fails("after the end", Check.OUT_OF_BOUNDS, () -> all.live(9));
        Check.fails("after the end of nothing", Check.OUT_OF_BOUNDS, () -> new BranchSlotFiller().live(1));
        Check.sentence("Promise 11: IllegalStateException if the entry is a slot");
        for (int i = 0; i < 60; i += 2) {
            int slot = i + 1;
            Check.same("a branch", full.live(i), 0);
            Check.fails("a slot", Check.STATE, () -> full.live(slot));
        }
        BranchSlotFiller filled = Check.expanded("out 1;jump 2");
        filled.fill(1, 0);
        Check.fails("a slot that is filled", Check.STATE, () -> filled.live(1));
    }

    private static void promise12() {
        Check.sentence("Promise 12: an entry, possibly the same; IndexOutOfBoundsException if one does not exist");
        BranchSlotFiller x = Check.expanded("out 1;jump 0");
        for (int i = 0; i < 3; i++) {
            Check.same("itself " + i, x.isIndependent(i, i) ? 1 : 0, i == 0 ? 0 : 1);
            Check.same("the slot and " + i, x.isIndependent(2, i) ? 1 : 0, 1);
        }
        Check.same("the last slot of 60", fullOfConditions().isIndependent(59, 58) ? 1 : 0, 1);
        for (int i : new int[] {LEAST, -1, 3, 60, GREATEST}) {
            Check.fails(i + " and 0", Check.OUT_OF_BOUNDS, () -> x.isIndependent(i, 0) ? 1 : 0);
            Check.fails("0 and " + i, Check.OUT_OF_BOUNDS, () -> x.isIndependent(0, i) ? 1 : 0);
            Check.fails(i + " and itself", Check.OUT_OF_BOUNDS, () -> x.isIndependent(i, i) ? 1 : 0);
        }
        Check.fails("nothing", Check.OUT_OF_BOUNDS, () -> new BranchSlotFiller().isIndependent(0, 0) ? 1 : 0);
    }

    private interface Filling {
        int of(int branch, int way);
    }

    private static void refusals(String what, BranchSlotFiller x, Filling filling) {
        Check.sentence("Promise 13, 14: IndexOutOfBoundsException if there is no such entry");
        for (int branch : new int[] {LEAST, -1, 6, 7, 60, GREATEST}) {
            Check.fails(what + " " + branch, Check.OUT_OF_BOUNDS, () -> filling.of(branch, 1));
        }
        Check.sentence("Promise 13, 14: IllegalArgumentException if the way is out of range");
        for (int way : new int[] {LEAST, -1, 3, 4, GREATEST}) {
            Check.fails(what + " in way " + way, Check.ARGUMENT, () -> filling.of(1, way));
        }
        Check.sentence("Promise 13, 14: IllegalStateException if the entry is no branch, or its slot does not hold nop");
        for (int way = 0; way < 3; way++) {
            int each = way;
            Check.fails(what + " of an instruction", Check.STATE, () -> filling.of(0, each));
            Check.fails(what + " of a slot", Check.STATE, () -> filling.of(2, each));
            Check.fails(what + " of a filled slot", Check.STATE, () -> filling.of(3, each));
            Check.fails(what + " of the last slot", Check.STATE, () -> filling.of(4, each));
            Check.fails(what + " of the last entry", Check.STATE, () -> filling.of(5, each));
        }
        Check.sentence("Promise 13, 14: NoSuchElementException if there is no candidate");
        for (int way = 0; way < 3; way++) {
            int each = way;
            Check.fails(what + " in way " + way, Check.NO_ELEMENT, () -> filling.of(1, each));
        }
        Check.same("the form stays", Check.written(x), "set 1 1;equal 1 2 5|nop;jump 1|set 1 1;halt");
    }

    private static void promise13And14() {
        BranchSlotFiller x = Check.expanded("set 1 1;equal 1 2 3;jump 0;halt");
        x.fill(3, 1);
        refusals("candidate", x, x::candidate);
        refusals("fill", x, x::fill);
        Check.same("both leave the changes", x.undo(), 1);
    }

    private static void promise14AnswersTheBranch() {
        Check.sentence("Promise 13: the entry of the candidate. Promise 14: the number of the entry of the branch then");
        answers("set 1 1;nop;jump 3", 2, 0, 0, 1);
        answers("nop;set 1 1;jump 3", 2, 0, 1, 1);
        answers("set 1 1;jump 2", 1, 0, 0, 0);
        answers("set 1 1;jump 0", 1, 1, 0, 1);
        answers("jump 1;set 1 1", 0, 1, 2, 0);
        answers("nop;less 1 2 3;set 3 1;halt", 1, 2, 3, 1);
        answers("less 1 2 2;set 3 1;halt", 0, 2, 2, 0);
    }

    private static void answers(String text, int branch, int way, int candidate, int then) {
        BranchSlotFiller x = Check.expanded(text);
        String form = Check.written(x);
        Check.same("candidate in " + text, x.candidate(branch, way), candidate);
        Check.same("the form stays", Check.written(x), form);
        Check.same("fill in " + text, x.fill(branch, way), then);
        Check.same("the branch is there", x.entry(then + 1, 4), 1);
        Check.same("the slot is filled", x.entry(then + 1, 0) == 0 ? 0 : 1, 1);
    }

    private static void promise15TriesInOrder() {
        Check.sentence("Promise 15: the three ways are tried in an order until there is a candidate");
        String all = "set 3 1;equal 1 2 3;set 4 1;out 5";
        String[] due = {"equal 1 2 3|set 3 1;set 4 1;out 5", "set 3 1;equal* 1 2 5|out 5;set 4 1;out 5",
            "set 3 1;equal 1 2 3|set 4 1;out 5"};
        order(all, due[0], due[0], due[1], due[1], due[2], due[2]);
        String noneBefore = "nop;equal 1 2 3;set 4 1;out 5";
        String target = "nop;equal* 1 2 5|out 5;set 4 1;out 5";
        String fall = "nop;equal 1 2 3|set 4 1;out 5";
        order(noneBefore, target, fall, target, target, fall, fall);
        String noneAtTarget = "set 3 1;equal 1 2 3;set 4 1;halt";
        String before = "equal 1 2 3|set 3 1;set 4 1;halt";
        String fallHalt = "set 3 1;equal 1 2 3|set 4 1;halt";
        order(noneAtTarget, before, before, before, fallHalt, fallHalt, fallHalt);
        String onlyTarget = "nop;jump 3;set 4 1;out 5";
        String jump = "nop;jump 5|out 5;set 4 1;out 5";
        order(onlyTarget, jump, jump, jump, jump, jump, jump);
        String none = "nop;jump 2";
        String still = "nop;jump 3|nop";
        order(none, still, still, still, still, still, still);
    }

    /** Calls fillAll with each pair of ways, and looks at the form that is due then. */
    private static void order(String text, String... due) {
        int[][] ways = {{0, 1}, {0, 2}, {1, 0}, {1, 2}, {2, 0}, {2, 1}};
        for (int k = 0; k < ways.length; k++) {
            BranchSlotFiller x = Check.expanded(text);
            String before = Check.written(x);
            String what = "fillAll(" + ways[k][0] + ", " + ways[k][1] + ") of " + text;
            Check.same(what, x.fillAll(ways[k][0], ways[k][1]), due[k].equals(before) ? 0 : 1);
            Check.same("the form after " + what, Check.written(x), due[k]);
        }
    }

    private static void promise15GoesFromTheFirstToTheLast() {
        Check.sentence("Promise 15: fills slots of all branches, from the first one to the last one");
        Check.same("no entries", new BranchSlotFiller().fillAll(0, 1), 0);
        Check.same("no branches", Check.expanded("out 1").fillAll(0, 1), 0);
        Check.same("none has a candidate", fullOfBranches().fillAll(0, 1), 0);
        Check.same("none has a candidate", fullOfConditions().fillAll(2, 1), 0);
        // The first branch takes the entry that the second one could take from before.
        BranchSlotFiller x = Check.expanded("less 1 2 3;set 3 1;jump 3;out 4");
        Check.same("two", x.fillAll(2, 0), 2);
        Check.same("the form", Check.written(x), "less 1 2 4|set 3 1;jump 5|out 4;out 4");
        BranchSlotFiller last = Check.expanded("nop;set 1 1;jump 3");
        Check.same("the last entry but one", last.fillAll(0, 1), 1);
        Check.same("the form", Check.written(last), "nop;jump 3|set 1 1");
        BranchSlotFiller all = Check.parsed(Check.repeated("jump 10;out 1", ";", 5));
        Check.parse(all, Check.repeated("jump 10;out 1", ";", 5));
        Check.parse(all, Check.repeated("jump 9;out 1", ";", 5));
        all.expand();
        Check.same("all but two, which go to a branch and have none before", all.fillAll(1, 0), 13);
        // The second branch leaves the entry that the first one could take then, but the first one had its turn.
        BranchSlotFiller once = Check.expanded("equal 1 2 4;set 3 1;set 4 1;jump 1");
        Check.same("each branch has one turn", once.fillAll(1, 2), 1);
        Check.same("the form", Check.written(once), "equal 1 2 6|nop;set 3 1;set 4 1;jump 3|set 3 1");
        Check.same("a second call", once.fillAll(1, 2), 1);
        Check.same("the form", Check.written(once), "equal 1 2 5|set 3 1;set 4 1;jump 2|set 3 1");
        Check.sentence("Promise 15: for each branch whose slot holds nop");
        BranchSlotFiller filled = Check.expanded("out 1;jump 0");
        filled.fill(1, 1);
        Check.same("none", filled.fillAll(1, 0), 0);
        Check.same("the form stays", Check.written(filled), "out 1;jump 1|out 1");
    }

    private static void promise15LooksAtTheWays() {
        Check.sentence("Promise 15: IllegalArgumentException if a way is out of range, or both are the same");
        BranchSlotFiller x = Check.expanded("out 1;jump 0");
        int[][] wrong = {{0, 0}, {1, 1}, {2, 2}, {-1, 0}, {-1, 1}, {-1, 2}, {0, -1}, {2, -1}, {3, 0}, {3, 2}, {0, 3},
            {1, 3}, {3, 3}, {-1, -1}, {-1, 4}, {LEAST, 0}, {0, LEAST}, {GREATEST, 0}, {0, GREATEST}};
        for (int[] ways : wrong) {
            Check.fails("fillAll(" + ways[0] + ", " + ways[1] + ")", Check.ARGUMENT, () -> x.fillAll(ways[0], ways[1]));
        }
        Check.same("the form stays", Check.written(x), "out 1;jump 0|nop");
        Check.same("no change", x.undo(), 0);
    }

    private static void promise16TakesBackTheLatest() {
        Check.sentence("Promise 16: takes back the latest change that was not taken back; IllegalStateException if none");
        Check.fails("undo of nothing", Check.STATE, () -> new BranchSlotFiller().undo());
        BranchSlotFiller x = Check.expanded("out 1;jump 0;jump 0");
        String first = Check.written(x);
        x.fill(1, 0);
        String second = Check.written(x);
        x.fillAll(1, 2);
        Check.same("undo of fillAll", x.undo(), 2);
        Check.same("the form", Check.written(x), second);
        Check.same("undo of fill", x.undo(), 1);
        Check.same("the form", Check.written(x), first);
        x.fill(1, 1);
        Check.same("undo of another fill", x.undo(), 1);
        Check.same("the form", Check.written(x), first);
        Check.same("undo of expand", x.undo(), 0);
        Check.same("no entries", x.entries(), 0);
        Check.fails("undo of no more", Check.STATE, x::undo);
        Check.same("the source stays", x.instructions(), 3);
        BranchSlotFiller y = Check.parsed("out 1");
        y.setInitial(false, 1, 1);
        y.run(true, 1);
        y.write();
        y.save();
        y.clear();
        Check.fails("other calls are no changes", Check.STATE, y::undo);
    }

    private static void promise16TakesBackAtMost8() {
        Check.sentence("Promise 16: at most 8 changes can be taken back");
        for (int changes = 7; changes <= 20; changes++) {
            BranchSlotFiller x = new BranchSlotFiller();
            for (int i = 0; i < changes; i++) {
                Check.parse(x, "nop");
                x.expand();
            }
            int can = Math.min(changes, 8);
            for (int i = can - 1; i >= 0; i--) {
                Check.same("undo after " + changes, x.undo(), i);
                Check.same("entries", x.entries(), changes - can + i);
            }
            Check.fails("undo after " + changes, Check.STATE, x::undo);
        }
    }

    private static void promise17And18() {
        Check.sentence("Promise 18: the text that was written last, which is empty at first");
        BranchSlotFiller x = Check.expanded("jump 1");
        Check.fails("at first", Check.OUT_OF_BOUNDS, () -> x.text(0));
        Check.sentence("Promise 17: a text, which replaces the earlier one; the length of the text");
        Check.same("write", x.write(), 10);
        Check.same("the text", Check.text(x), "jump 2|nop");
        x.clear();
        x.expand();
        Check.same("the text stays", Check.text(x), "jump 2|nop");
        Check.same("write nothing", x.write(), 0);
        Check.same("no text", Check.text(x), "");
        BranchSlotFiller full = fullOfBranches();
        int length = 14 * 11 + 14 * 11 + 2 * 11 + 29;
        Check.same("the length of 60 entries", full.write(), length);
        String due = Check.repeated("jump 28|nop", ";", 14) + ";" + Check.repeated("jump 56|nop", ";", 14)
                + ";jump 56|nop;jump 60|nop";
        Check.same("its text", Check.text(full), due);
        Check.same("the length of its text", due.length(), length);
        BranchSlotFiller conditions = fullOfConditions();
        String first = Check.repeated("less 0 7 0|nop", ";", 10);
        String others = first.replace("7 0", "7 20") + ";" + first.replace("7 0", "7 40");
        Check.same("the length of other 60 entries", conditions.write(), first.length() + 1 + others.length());
        Check.same("their text", Check.text(conditions), first + ";" + others);
        Check.sentence("Promise 18: IndexOutOfBoundsException if there is no such index");
        x.undo();
        x.write();
        Check.same("the first one", x.text(0), 'j');
        Check.same("the last one", x.text(9), 'p');
        for (int i : new int[] {LEAST, -1, 10, 11, GREATEST}) {
            Check.fails("text " + i, Check.OUT_OF_BOUNDS, () -> x.text(i));
        }
    }

    private static void promise19() {
        Check.sentence("Promise 19: value: any int; the previous value");
        BranchSlotFiller x = new BranchSlotFiller();
        int previous = 0;
        for (int value : new int[] {LEAST, -1, 0, 1, GREATEST}) {
            Check.same("register 7", x.setInitial(false, 7, value), previous);
            Check.same("cell 15", x.setInitial(true, 15, value), previous);
            Check.same("register 0", x.setInitial(false, 0, value), previous);
            Check.same("cell 0", x.setInitial(true, 0, value), previous);
            previous = value;
        }
        Check.sentence("Promise 19: IndexOutOfBoundsException if there is no such register or cell");
        for (int i : new int[] {LEAST, -1, 16, 23, 24, GREATEST}) {
            Check.fails("register " + i, Check.OUT_OF_BOUNDS, () -> x.setInitial(false, i, 1));
            Check.fails("cell " + i, Check.OUT_OF_BOUNDS, () -> x.setInitial(true, i, 1));
        }
        for (int i = 8; i < 16; i++) {
            int number = i;
            Check.fails("register " + i, Check.OUT_OF_BOUNDS, () -> x.setInitial(false, number, 1));
            Check.same("cell " + i, x.setInitial(true, number, 1), i == 15 ? GREATEST : 0);
        }
    }

    private static void promise20Limits() {
        Check.sentence("Promise 20: the limit, 1 to 2000, else IllegalArgumentException");
        BranchSlotFiller x = Check.expanded("nop");
        for (int limit : new int[] {LEAST, -1, 0, 2001, 2002, GREATEST}) {
            Check.fails("limit " + limit, Check.ARGUMENT, () -> x.run(false, limit));
            Check.fails("limit " + limit, Check.ARGUMENT, () -> x.run(true, limit));
        }
        for (int limit : new int[] {1, 2, 1999, 2000}) {
            Check.same("limit " + limit, x.run(false, limit), 1);
            Check.same("limit " + limit, x.run(true, limit), 1);
        }
        Check.sentence("Promise 20: UnsupportedOperationException if more steps would be needed");
        // 2 steps, and then a loop: 2 steps a round in the source, and 3 in the expanded form.
        BranchSlotFiller z = Check.expanded("set 4 1;nop;add 3 3 4;less 3 5 2");
        z.setInitial(false, 5, 666);
        Check.same("1334 steps of the source", z.run(false, 1334), 1334);
        Check.fails("1333 steps", Check.UNSUPPORTED, () -> z.run(false, 1333));
        Check.same("2000 steps of the form", z.run(true, 2000), 2000);
        Check.fails("1999 steps", Check.UNSUPPORTED, () -> z.run(true, 1999));
        z.setInitial(false, 5, 667);
        Check.fails("2003 steps", Check.UNSUPPORTED, () -> z.run(true, 2000));
        z.setInitial(false, 5, 999);
        Check.same("2000 steps of the source", z.run(false, 2000), 2000);
        Check.fails("1999 steps", Check.UNSUPPORTED, () -> z.run(false, 1999));
        z.setInitial(false, 5, 1000);
        Check.fails("2002 steps", Check.UNSUPPORTED, () -> z.run(false, 2000));
        BranchSlotFiller full = fullOfConditions();
        Check.same("30 steps to the end of a full source", full.run(false, 30), 30);
        Check.same("60 steps to the end of a full form", full.run(true, 60), 60);
        Check.fails("59 steps", Check.UNSUPPORTED, () -> full.run(true, 59));
        BranchSlotFiller out = Check.expanded("out 1;jump 0");
        Check.fails("no end", Check.UNSUPPORTED, () -> out.run(false, 2000));
        Check.fails("no end", Check.UNSUPPORTED, () -> out.run(true, 2000));
    }

    private static void promise20Keeps() {
        Check.sentence("Promise 20: the output and the final values are kept until the next successful call");
        BranchSlotFiller x = Check.expanded("out 1;set 1 5;out 1;store 1 0 7");
        Check.fails("too few steps", Check.UNSUPPORTED, () -> x.run(true, 3));
        Check.fails("nothing is kept", Check.STATE, x::outputs);
        x.run(true, 4);
        for (int limit : new int[] {3, 0, 1}) {
            Check.fails("run", limit == 0 ? Check.ARGUMENT : Check.UNSUPPORTED, () -> x.run(false, limit));
            Check.same("outputs", Check.outputs(x), "0 5");
            Check.same("register 1", x.finalValue(false, 1), 5);
            Check.same("cell 7", x.finalValue(true, 7), 5);
        }
        x.setInitial(false, 1, 4);
        x.clear();
        Check.same("the next successful call", x.run(false, 1), 0);
        Check.same("outputs", Check.outputs(x), "");
        Check.same("register 1", x.finalValue(false, 1), 4);
        Check.same("cell 7", x.finalValue(true, 7), 0);
    }

    private static void promise20BeginsAnew() {
        Check.sentence("An execution begins with an empty output (promise 20)");
        BranchSlotFiller x = Check.expanded("out 1;out 2");
        for (int round = 0; round < 6; round++) {
            x.setInitial(false, 1, round);
            Check.same("steps", x.run(round % 3 == 0, round % 2 == 0 ? 2000 : 2), 2);
            Check.same("outputs", Check.outputs(x), round + " 0");
            Check.fails("one step", Check.UNSUPPORTED, () -> x.run(true, 1));
        }
    }

    private static void promise21To23() {
        BranchSlotFiller none = Check.expanded("out 1");
        Check.sentence("Promise 21, 22, 23: IllegalStateException if no execution was kept");
        Check.fails("finalValue", Check.STATE, () -> none.finalValue(false, 0));
        Check.fails("finalValue", Check.STATE, () -> none.finalValue(true, 15));
        Check.fails("outputs", Check.STATE, none::outputs);
        Check.fails("output", Check.STATE, () -> none.output(0));
        none.run(false, 1);
        Check.same("outputs", none.outputs(), 1);
        BranchSlotFiller x = Check.expanded("out 1;out 2");
        x.setInitial(false, 2, LEAST);
        x.run(true, 2);
        Check.sentence("Promise 21: IndexOutOfBoundsException if there is no such register or cell");
        for (int i : new int[] {LEAST, -1, 8, 9, 15, 16, GREATEST}) {
            Check.fails("register " + i, Check.OUT_OF_BOUNDS, () -> x.finalValue(false, i));
        }
        for (int i : new int[] {LEAST, -1, 16, 17, 24, GREATEST}) {
            Check.fails("cell " + i, Check.OUT_OF_BOUNDS, () -> x.finalValue(true, i));
        }
        Check.same("register 7", x.finalValue(false, 7), 0);
        Check.same("cell 15", x.finalValue(true, 15), 0);
        Check.sentence("Promise 23: IndexOutOfBoundsException if there is no such index");
        Check.same("the first one", x.output(0), 0);
        Check.same("the last one", x.output(1), LEAST);
        for (int i : new int[] {LEAST, -1, 2, 3, GREATEST}) {
            Check.fails("output " + i, Check.OUT_OF_BOUNDS, () -> x.output(i));
        }
        x.clear();
        x.run(false, 1);
        Check.same("outputs", x.outputs(), 0);
        Check.fails("output 0", Check.OUT_OF_BOUNDS, () -> x.output(0));
        Check.sentence("Promise 22: the length of the output");
        BranchSlotFiller most = Check.parsed("out 3;add 3 3 4;" + Check.repeated("out 3", ";", 17));
        Check.parse(most, "less 3 5 0");
        Check.same("18 outputs in 20 steps", most.run(false, 20), 20);
        Check.same("outputs", most.outputs(), 18);
        Check.same("the first one", most.output(0), 0);
    }

    private static void promise24Draws() {
        Check.sentence("Promise 24: s, at first the seed, becomes s * 1103515245 + 12345, with overflow, and the value is "
                + "(s >>> 16) % 10; s goes on from execution to execution");
        for (int seed : new int[] {LEAST, -1, 0, 1, 99, GREATEST}) {
            for (int register = 0; register < 7; register++) {
                BranchSlotFiller x = Check.expanded("less " + register + " 7 2;out 0");
                x.clear();
                BranchSlotFiller y = Check.expanded("load " + register + " 7 " + register + ";less " + register + " 7 3;out 0");
                y.clear();
                drawn(seed, register, x, y);
            }
        }
    }

    /** The source is empty, so that the forms differ just where they output: where a value is not less. */
    private static void drawn(int seed, int register, BranchSlotFiller x, BranchSlotFiller y) {
        int s = seed;
        int due = 0;
        int dueOfCells = 0;
        for (int n = 1; n <= 50; n++) {
            int[] values = new int[24];
            for (int i = 0; i < 24; i++) {
                s = s * 1103515245 + 12345;
                values[i] = (s >>> 16) % 10;
            }
            due += values[register] < values[7] ? 0 : 1;
            dueOfCells += values[8 + (values[7] + register) % 16] < values[7] ? 0 : 1;
            if (n % 7 == 1) {
                Check.same("differences(" + seed + ", " + n + ")", x.differences(seed, n), due);
                Check.same("differences(" + seed + ", " + n + ") of cells", y.differences(seed, n), dueOfCells);
            }
        }
    }

    private static void different(String source, String form, int due) {
        BranchSlotFiller x = Check.expanded(form);
        x.clear();
        Check.parse(x, source);
        Check.same("differences of " + source + " and " + form, x.differences(1, 50), due);
        Check.same("one of them", x.differences(1, 1), due / 50);
    }

    private static void promise24Compares() {
        Check.sentence("Promise 24: different outputs, or a different final value of a cell");
        different("", "", 0);
        different("set 1 1", "", 0);
        different("", "out 1", 50);
        different("out 1", "", 50);
        different("out 1;out 1", "out 1", 50);
        different("set 1 1;out 1", "set 1 2;out 1", 50);
        different("out 1;set 1 20;out 1", "out 1;set 1 21;out 1", 50);
        for (int cell = 0; cell < 16; cell++) {
            different("set 1 10;set 2 0;store 1 2 " + cell, "", 50);
            different("set 1 10;set 2 0;store 1 2 " + cell, "set 3 10;set 2 0;store 3 2 " + cell, 0);
        }
        Check.sentence("Promise 24: an execution ends after 300 steps; if that happens in one of both forms, the execution "
                + "is not counted as different");
        different("jump 0", "set 1 10;out 1", 0);
        different("set 1 10;out 1", "jump 0", 0);
        different("out 1;jump 0", "jump 0", 0);
        Check.sentence("Promise 24: n: the number of executions, 1 to 50, else IllegalArgumentException");
        BranchSlotFiller x = Check.expanded("out 1");
        x.clear();
        Check.same("50", x.differences(LEAST, 50), 50);
        Check.same("1", x.differences(GREATEST, 1), 1);
        for (int n : new int[] {LEAST, -1, 0, 51, 52, GREATEST}) {
            Check.fails("n " + n, Check.ARGUMENT, () -> x.differences(1, n));
        }
    }

    private static void mean(String form, int n, double due) {
        BranchSlotFiller x = Check.expanded(form);
        x.clear();
        Check.sameDouble("meanSteps of " + form, x.meanSteps(1, n), due);
    }

    private static void promise25() {
        Check.sentence("Promise 25: the sum of the numbers of steps as a double, 300 for an execution that has not ended "
                + "before, divided by n");
        mean("", 1, 0.0);
        mean("", 50, 0.0);
        mean("nop", 1, 1.0);
        mean("jump 1", 50, 2.0);
        mean("jump 0", 1, 300.0);
        mean("jump 0", 50, 300.0);
        String rounds = "set 1 0;set 2 1;set 3 74;add 1 1 2;nop;less 1 3 3";
        mean(rounds, 3, 299.0);
        mean(rounds + ";nop", 3, 300.0);
        mean(rounds + ";nop;nop", 3, 300.0);
        BranchSlotFiller x = Check.expanded("equal 1 2 2;nop;halt");
        int sum = 0;
        int s = 5;
        for (int n = 1; n <= 50; n++) {
            int[] values = new int[24];
            for (int i = 0; i < 24; i++) {
                s = s * 1103515245 + 12345;
                values[i] = (s >>> 16) % 10;
            }
            sum += values[1] == values[2] ? 3 : 4;
            Check.sameDouble("meanSteps(5, " + n + ")", x.meanSteps(5, n), (double) sum / n);
        }
        Check.sentence("Promise 25: n: the number of executions, 1 to 50, else IllegalArgumentException");
        for (int n : new int[] {LEAST, -1, 0, 51, 52, GREATEST}) {
            Check.fails("n " + n, Check.ARGUMENT, () -> (long) x.meanSteps(1, n));
        }
    }

    private static void promise26() {
        Check.sentence("Promise 26: ArithmeticException if there are no branches");
        Check.fails("nothing", Check.ARITHMETIC, () -> (long) new BranchSlotFiller().filledShare());
        Check.fails("no branches", Check.ARITHMETIC, () -> (long) Check.expanded("out 1;nop;halt").filledShare());
        Check.fails("no form", Check.ARITHMETIC, () -> (long) Check.parsed("jump 1").filledShare());
        Check.sentence("Promise 26: their number, as a float, divided by the number of branches, as a float");
        Check.sameDouble("none of 30", fullOfBranches().filledShare(), 0.0f);
        BranchSlotFiller x = Check.expanded("out 1;jump 0;jump 0;jump 0");
        for (int filled = 0; filled <= 3; filled++) {
            Check.sameDouble(filled + " of 3", x.filledShare(), (float) filled / 3f);
            if (filled < 3) {
                x.fill(1 + 2 * filled, 1);
            }
        }
        BranchSlotFiller one = Check.expanded("out 1;jump 0");
        Check.sameDouble("0 of 1", one.filledShare(), 0.0f);
        one.fill(1, 1);
        Check.sameDouble("1 of 1", one.filledShare(), 1.0f);
    }

    private static void promise27And28() {
        Check.sentence("Promise 28: IllegalStateException if nothing was saved");
        BranchSlotFiller x = Check.expanded("out 1;jump 0");
        Check.fails("restore", Check.STATE, x::restore);
        Check.sentence("Promise 27: saves the source, the expanded form and the initial values, in place of what was saved");
        x.setInitial(false, 7, 5);
        x.setInitial(true, 15, 6);
        Check.same("save", x.save(), 2);
        x.clear();
        x.setInitial(false, 7, 8);
        x.fill(1, 1);
        Check.same("save in its place", x.save(), 0);
        Check.parse(x, "nop");
        x.expand();
        x.setInitial(false, 7, 9);
        Check.sentence("Promise 28: restores what was saved, which stays saved");
        for (int round = 0; round < 3; round++) {
            Check.same("restore", x.restore(), 0);
            Check.same("the source", x.instructions(), 0);
            Check.same("the form", Check.written(x), "out 1;jump 1|out 1");
            Check.same("register 7", x.setInitial(false, 7, 1), 8);
            Check.same("cell 15", x.setInitial(true, 15, 2), 6);
            Check.parse(x, "halt;jump 0");
            x.expand();
        }
        BranchSlotFiller most = fullOfBranches();
        Check.same("save 30", most.save(), 30);
        most.clear();
        most.expand();
        Check.same("restore 30", most.restore(), 30);
        Check.same("60 entries", most.entries(), 60);
        Check.same("the last instruction", Check.instruction(most, 29), "10 0 0 30");
        Check.same("the last branch", Check.entry(most, 58), "10 0 0 60 0 0 0");
        BranchSlotFiller none = new BranchSlotFiller();
        Check.same("save nothing", none.save(), 0);
        Check.same("restore nothing", none.restore(), 0);
    }

    private static void promise28ForgetsChanges() {
        Check.sentence("Promise 28: no change can be taken back afterwards");
        BranchSlotFiller x = new BranchSlotFiller();
        for (int i = 0; i < 10; i++) {
            x.expand();
        }
        x.save();
        Check.same("a change after save", x.undo(), 7);
        x.restore();
        Check.fails("undo", Check.STATE, x::undo);
        x.expand();
        Check.same("a change after restore", x.undo(), 0);
        Check.fails("undo", Check.STATE, x::undo);
        Check.fails("a restore that throws forgets nothing", Check.STATE, () -> new BranchSlotFiller().restore());
        BranchSlotFiller y = Check.expanded("nop");
        Check.fails("restore", Check.STATE, y::restore);
        Check.same("undo", y.undo(), 0);
    }
}
