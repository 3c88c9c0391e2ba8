/** The parts of what an object holds, as far as calls can tell. To ask for a part changes the object. */
enum Part {
    BUFFER, SOURCE, FORM, CHANGES, TEXT, INITIAL, KEPT, SAVED;

    private static final int REGISTERS = 8;
    private static final int PLACES = 24;

    interface Call {
        long of(BranchSlotFiller x);
    }

    String of(BranchSlotFiller x) {
        switch (this) {
            case BUFFER:
                return buffer(x);
            case SOURCE:
                return source(x);
            case FORM:
                return form(x);
            case CHANGES:
                return changes(x);
            case TEXT:
                return Check.text(x);
            case INITIAL:
                return initial(x);
            case KEPT:
                return kept(x);
            default:
                return told(x, BranchSlotFiller::restore) + ' ' + source(x) + form(x) + initial(x);
        }
    }

    static String told(BranchSlotFiller x, Call call) {
        try {
            return Long.toString(call.of(x));
        } catch (RuntimeException e) {
            return e.getClass().getSimpleName();
        }
    }

    /** The source is emptied first, so that it makes no difference to what the buffer is read as. */
    private static String buffer(BranchSlotFiller x) {
        x.clear();
        StringBuilder text = new StringBuilder();
        for (char letter : ";nop".toCharArray()) {
            text.append(told(x, y -> y.feed(letter))).append(' ');
        }
        return text.append(told(x, BranchSlotFiller::parse)).append(source(x)).toString();
    }

    private static String source(BranchSlotFiller x) {
        StringBuilder text = new StringBuilder("source");
        for (int i = 0; i < x.instructions(); i++) {
            text.append("; ").append(Check.instruction(x, i));
        }
        return text.append('\n').toString();
    }

    private static String form(BranchSlotFiller x) {
        StringBuilder text = new StringBuilder("form");
        for (int i = 0; i < x.entries(); i++) {
            text.append("; ").append(Check.entry(x, i));
        }
        return text.append('\n').toString();
    }

    private static String changes(BranchSlotFiller x) {
        StringBuilder text = new StringBuilder();
        String last = told(x, BranchSlotFiller::undo);
        while (!last.startsWith("I") && text.length() < 100000) {
            text.append(last).append(' ').append(form(x));
            last = told(x, BranchSlotFiller::undo);
        }
        return text.append(last).toString();
    }

    private static String initial(BranchSlotFiller x) {
        StringBuilder text = new StringBuilder("initial");
        for (int i = 0; i < PLACES; i++) {
            text.append(' ').append(x.setInitial(i >= REGISTERS, i < REGISTERS ? i : i - REGISTERS, 1));
        }
        return text.toString();
    }

    private static String kept(BranchSlotFiller x) {
        StringBuilder text = new StringBuilder(told(x, BranchSlotFiller::outputs)).append(" outputs:");
        for (int i = 0; i <= 3; i++) {
            int index = i;
            text.append(' ').append(told(x, y -> y.output(index)));
        }
        text.append(" values:");
        for (int i = 0; i < PLACES; i++) {
            int place = i;
            boolean isCell = place >= REGISTERS;
            text.append(' ').append(told(x, y -> y.finalValue(isCell, isCell ? place - REGISTERS : place)));
        }
        return text.toString();
    }
}
