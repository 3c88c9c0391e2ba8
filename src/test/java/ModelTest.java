/** Runs of drawn calls on the program and on the model of the tests: each call has the same answer on both. */
final class ModelTest {
    private interface Answer {
        double of();
    }

    private static final int RUNS = 300;
    private static final int CALLS = 250;

    private static long state;

    public static void main(String[] args) {
        int fills = 0;
        for (int run = 0; run < RUNS; run++) {
            state = 88172645463325252L + 7919L * run;
            fills += oneRun(run);
        }
        if (fills < 5 * RUNS) {
            Check.report("too few slots were filled: " + fills);
        }
        Check.finish();
    }

    private static int draw(int bound) {
        state ^= state << 13;
        state ^= state >>> 7;
        state ^= state << 17;
        return (int) Math.floorMod(state, (long) bound);
    }

    private static int oneRun(int run) {
        BranchSlotFiller x = new BranchSlotFiller();
        Model m = new Model();
        int fills = 0;
        boolean isPure = false;
        for (int call = 0; call < CALLS; call++) {
            int choice = draw(30);
            if (choice == 0 || m.instructions() == 0 && draw(2) == 0) {
                text(x, m, run);
                isPure = false;
            } else if (choice == 1 || choice == 2 && m.count(1) == 0) {
                same(run, "expand", x::expand, m::expand);
                isPure = true;
            } else if (choice < 9) {
                int branch = branchOrAny(m);
                int way = draw(20) == 0 ? draw(9) - 3 : draw(3);
                same(run, "candidate " + branch + " " + way, () -> x.candidate(branch, way), () -> m.candidate(branch, way));
                fills += same(run, "fill " + branch + " " + way, () -> x.fill(branch, way), () -> m.fill(branch, way));
            } else {
                other(x, m, run, choice);
                isPure = isPure && choice > 11;
            }
            // Fills alone change no effects: the form has been made from this very source.
            if (isPure && draw(8) == 0) {
                Check.same("run " + run + ": differences of fills", x.differences(draw(1000), 5), 0);
            }
        }
        compare(x, m, run);
        return fills;
    }

    private static int branchOrAny(Model m) {
        for (int turn = 0; turn < 20; turn++) {
            int i = draw(m.entries() + 1);
            if (i < m.entries() && m.entry(i, 0) >= 8 && m.entry(i, 0) <= 10) {
                return i;
            }
        }
        return draw(64) - 2;
    }

    private static void other(BranchSlotFiller x, Model m, int run, int choice) {
        int i = draw(m.entries() + 4) - 2;
        int k = draw(m.entries() + 4) - 2;
        int small = draw(18) - 1;
        int what = draw(9) - 1;
        boolean flag = draw(2) == 0;
        int seed = draw(100000) - 50000;
        switch (choice) {
            case 9:
                if (m.instructions() > 20 || draw(10) == 0) {
                    same(run, "clear", x::clear, m::clear);
                }
                break;
            case 10:
                if (draw(4) == 0) {
                    same(run, "restore", x::restore, m::restore);
                }
                break;
            case 11:
                same(run, "undo", x::undo, m::undo);
                break;
            case 12:
                if (m.entries() > 0 || draw(10) == 0) {
                    same(run, "save", x::save, m::save);
                }
                break;
            case 13:
                if (draw(3) > 0) {
                    break;
                }
                int first = draw(12) == 0 ? draw(6) - 1 : draw(3);
                int second = draw(12) == 0 ? draw(6) - 1 : (first + 1 + draw(2)) % 3;
                same(run, "fillAll " + first + " " + second, () -> x.fillAll(first, second), () -> m.fillAll(first, second));
                break;
            case 14:
            case 15:
                same(run, "instruction " + small + " " + what, () -> x.instruction(small, what), () -> m.instruction(small, what));
                same(run, "instructions", x::instructions, m::instructions);
                break;
            case 16:
            case 17:
                same(run, "entry " + i + " " + what, () -> x.entry(i, what), () -> m.entry(i, what));
                same(run, "count " + what, () -> x.count(what), () -> m.count(what));
                break;
            case 18:
            case 19:
                same(run, "live " + i, () -> x.live(i), () -> m.live(i));
                break;
            case 20:
            case 21:
                same(run, "isIndependent " + i + " " + k, () -> x.isIndependent(i, k) ? 1 : 0, () -> m.isIndependent(i, k) ? 1 : 0);
                break;
            case 22:
                same(run, "write", x::write, m::write);
                same(run, "text " + i, () -> x.text(i), () -> m.text(i));
                break;
            case 23:
                int value = draw(4) == 0 ? Integer.MAX_VALUE - draw(3) : draw(20) - 5;
                same(run, "setInitial " + flag + " " + small, () -> x.setInitial(flag, small, value), () -> m.setInitial(flag, small, value));
                break;
            case 24:
            case 25:
                int limit = draw(10) == 0 ? draw(3) * 1000 + draw(3) - 1 : 1 + draw(120);
                same(run, "run " + flag + " " + limit, () -> x.run(flag, limit), () -> m.run(flag, limit));
                same(run, "outputs", x::outputs, m::outputs);
                break;
            case 26:
                same(run, "finalValue " + flag + " " + small, () -> x.finalValue(flag, small), () -> m.finalValue(flag, small));
                same(run, "output " + small, () -> x.output(small), () -> m.output(small));
                break;
            case 27:
                int n = draw(10) == 0 ? draw(3) * 50 + draw(3) - 1 : 1 + draw(6);
                same(run, "differences " + seed + " " + n, () -> x.differences(seed, n), () -> m.differences(seed, n));
                same(run, "meanSteps " + seed + " " + n, () -> x.meanSteps(seed, n), () -> m.meanSteps(seed, n));
                break;
            case 28:
                same(run, "filledShare", x::filledShare, m::filledShare);
                break;
            default:
                compare(x, m, run);
                break;
        }
    }

    /** Compares all that can be seen; these calls are outside the count, as they change nothing but the text. */
    private static void compare(BranchSlotFiller x, Model m, int run) {
        for (int i = 0; i < m.instructions(); i++) {
            for (int what = 0; what < 4; what++) {
                Check.same("run " + run + ": instruction " + i + " " + what, x.instruction(i, what), m.instruction(i, what));
            }
        }
        Check.same("run " + run + ": entries", x.entries(), m.entries());
        for (int i = 0; i < m.entries(); i++) {
            for (int what = 0; what < 7; what++) {
                Check.same("run " + run + ": entry " + i + " " + what, x.entry(i, what), m.entry(i, what));
            }
            int at = i;
            same(run, "live " + i, () -> x.live(at), () -> m.live(at));
        }
        for (int what = 0; what < 5; what++) {
            Check.same("run " + run + ": count " + what, x.count(what), m.count(what));
        }
        m.write();
        Check.same("run " + run + ": text", Check.written(x), m.text);
    }

    /** Feeds a text, most often a right one, and parses it. */
    private static void text(BranchSlotFiller x, Model m, int run) {
        StringBuilder text = new StringBuilder();
        int lines = draw(13);
        for (int i = 0; i < lines; i++) {
            String line = line(lines);
            if (text.length() + line.length() < 118) {
                text.append(i == 0 ? "" : ";").append(line);
            }
        }
        if (draw(5) == 0 && text.length() > 0) {
            spoil(text);
        }
        for (int i = 0; i < text.length(); i++) {
            char letter = text.charAt(i);
            same(run, "feed", () -> x.feed(letter), () -> m.feed(letter));
        }
        same(run, "parse " + text, x::parse, m::parse);
    }

    private static String line(int lines) {
        int kind = draw(14) >= 9 ? 8 + draw(3) : draw(12);
        StringBuilder line = new StringBuilder(Model.NAMES[kind]);
        for (char operand : Model.OPERANDS[kind].toCharArray()) {
            boolean isTarget = operand == 'c' && kind >= 8;
            boolean isNumber = operand == 'c' && kind == 1;
            int bound = isTarget ? Math.max(1, Math.min(lines + 1, 9)) : isNumber ? 100 : operand == 'c' && kind <= 6 && kind >= 5 ? 16 : 5;
            line.append(' ').append(isNumber && draw(2) == 0 ? "-" : "").append(draw(200) == 0 ? 20 : draw(bound));
        }
        return line.toString();
    }

    private static void spoil(StringBuilder text) {
        String letters = "0123456789 ;-|*anopsetjumphl\u00e9\u0661";
        int place = draw(text.length());
        char letter = letters.charAt(draw(letters.length()));
        if (draw(3) == 0) {
            text.deleteCharAt(place);
        } else if (draw(2) == 0) {
            text.insert(place, letter);
        } else {
            text.setCharAt(place, letter);
        }
    }

    /** Compares two answers, or the classes of two exceptions; answers 1 for an answer. */
    private static int same(int run, String call, Answer x, Answer m) {
        String one = told(x);
        String two = told(m);
        Check.same("run " + run + ": " + call, one, two);
        return one.startsWith("throws") ? 0 : 1;
    }

    private static String told(Answer answer) {
        try {
            return String.valueOf(answer.of());
        } catch (RuntimeException e) {
            return "throws " + e.getClass().getSimpleName();
        }
    }
}
