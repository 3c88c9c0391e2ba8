/** What the tests share: they count wrong answers, print each of them, and end with exit code 1 if there was one. */
final class Check {
    interface Call {
        long answer();
    }

    static final Class<?> OUT_OF_BOUNDS = IndexOutOfBoundsException.class;
    static final Class<?> ARGUMENT = IllegalArgumentException.class;
    static final Class<?> STATE = IllegalStateException.class;
    static final Class<?> NO_ELEMENT = java.util.NoSuchElementException.class;
    static final Class<?> ARITHMETIC = ArithmeticException.class;
    static final Class<?> UNSUPPORTED = UnsupportedOperationException.class;

    private static int wrong = 0;
    private static int done = 0;
    private static String sentence = "";

    private Check() {
    }

    /** The checks that follow are there for this sentence of the document; what goes wrong is told with it. */
    static void sentence(String words) {
        sentence = words;
    }

    static void same(String what, long got, long due) {
        done++;
        if (got != due) {
            report(what + " answered " + got + ", due is " + due);
        }
    }

    static void same(String what, String got, String due) {
        done++;
        if (!got.equals(due)) {
            report(what + " answered \"" + got + "\", due is \"" + due + "\"");
        }
    }

    static void sameDouble(String what, double got, double due) {
        done++;
        if (got != due) {
            report(what + " answered " + got + ", due is " + due);
        }
    }

    /** The class must be the very one, so that an exception of the machine below it is not taken for it. */
    static void fails(String what, Class<?> due, Call call) {
        done++;
        try {
            long got = call.answer();
            report(what + " answered " + got + ", due is " + due.getSimpleName());
        } catch (RuntimeException e) {
            if (e.getClass() != due) {
                report(what + " threw " + e.getClass().getSimpleName() + ", due is " + due.getSimpleName());
            }
        }
    }

    static void report(String line) {
        wrong++;
        System.out.println(sentence.isEmpty() ? line : line + "  [" + sentence + "]");
    }

    static void finish() {
        System.out.println(done + " checks, " + wrong + " wrong");
        if (wrong != 0) {
            System.exit(1);
        }
    }

    static void feed(BranchSlotFiller x, String text) {
        for (int i = 0; i < text.length(); i++) {
            x.feed(text.charAt(i));
        }
    }

    static int parse(BranchSlotFiller x, String text) {
        feed(x, text);
        return x.parse();
    }

    /** A workbench whose source is the text and whose expanded form is made from it. */
    static BranchSlotFiller expanded(String text) {
        BranchSlotFiller x = new BranchSlotFiller();
        appended(x, text);
        x.expand();
        return x;
    }

    static BranchSlotFiller parsed(String text) {
        BranchSlotFiller x = new BranchSlotFiller();
        appended(x, text);
        return x;
    }

    private static void appended(BranchSlotFiller x, String text) {
        if (parse(x, text) < 0) {
            report("the test's own text is wrong: " + text);
        }
    }

    static String written(BranchSlotFiller x) {
        int length = x.write();
        return kept(x, length);
    }

    static String kept(BranchSlotFiller x, int length) {
        StringBuilder text = new StringBuilder();
        for (int i = 0; i < length; i++) {
            text.append(x.text(i));
        }
        return text.toString();
    }

    /** The text that was written last, read from its beginning to the first index that is none. */
    static String text(BranchSlotFiller x) {
        StringBuilder text = new StringBuilder();
        while (text.length() < 2000) {
            try {
                text.append(x.text(text.length()));
            } catch (IndexOutOfBoundsException e) {
                break;
            }
        }
        return text.toString();
    }

    static String outputs(BranchSlotFiller x) {
        StringBuilder text = new StringBuilder();
        int outputs = x.outputs();
        for (int i = 0; i < outputs; i++) {
            text.append(i == 0 ? "" : " ").append(x.output(i));
        }
        return text.toString();
    }

    static String repeated(String part, String between, int times) {
        StringBuilder text = new StringBuilder();
        for (int i = 0; i < times; i++) {
            text.append(i == 0 ? "" : between).append(part);
        }
        return text.toString();
    }

    static String instruction(BranchSlotFiller x, int i) {
        return x.instruction(i, 0) + " " + x.instruction(i, 1) + " " + x.instruction(i, 2) + " " + x.instruction(i, 3);
    }

    static String entry(BranchSlotFiller x, int i) {
        StringBuilder text = new StringBuilder();
        for (int what = 0; what <= 6; what++) {
            text.append(what == 0 ? "" : " ").append(x.entry(i, what));
        }
        return text.toString();
    }
}
