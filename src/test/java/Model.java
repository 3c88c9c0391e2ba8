import java.util.ArrayList;
import java.util.HashSet;
import java.util.List;
import java.util.Set;

/**
 * The document told a second time, in another way, for comparison: targets are references to items, an item that a
 * branch has as its slot hangs on the branch, texts are read by patterns, liveness is searched way by way.
 */
final class Model {
    /** An instruction, or the end, whose kind is END. */
    static final class Item {
        int kind;
        int[] operands = new int[3];
        Item target;
        Item slot;
        boolean isAnnulling;

        Item(int kind) {
            this.kind = kind;
        }

        Item twin() {
            Item twin = new Item(kind);
            twin.operands = operands.clone();
            return twin;
        }

        boolean isBranch() {
            return kind >= 8 && kind <= 10;
        }
    }

    /** An expanded form: its items without the slots, and the end as the last one. */
    static final class Form {
        final List<Item> items = new ArrayList<>();

        Form() {
            items.add(new Item(END));
        }

        List<Item> entries() {
            List<Item> entries = new ArrayList<>();
            for (Item item : items) {
                entries.add(item);
                if (item.slot != null) {
                    entries.add(item.slot);
                }
            }
            return entries;
        }

        Item following(Item item) {
            return items.get(items.indexOf(item) + 1);
        }

        Form copy() {
            Form copy = new Form();
            copy.items.clear();
            for (Item item : items) {
                Item twin = item.twin();
                twin.isAnnulling = item.isAnnulling;
                twin.slot = item.slot == null ? null : item.slot.twin();
                copy.items.add(twin);
            }
            for (int i = 0; i < items.size(); i++) {
                if (items.get(i).target != null) {
                    copy.items.get(i).target = copy.items.get(items.indexOf(items.get(i).target));
                }
            }
            return copy;
        }
    }

    static final int END = -1;
    static final String[] NAMES = {"nop", "set", "copy", "add", "sub", "load", "store", "out", "equal", "less", "jump",
        "halt"};
    static final String[] OPERANDS = {"", "ac", "ab", "abc", "abc", "abc", "abc", "a", "abc", "abc", "c", ""};

    String buffer = "";
    List<int[]> source = new ArrayList<>();
    Form form = new Form();
    List<Form> changes = new ArrayList<>();
    String text = "";
    int[] initial = new int[24];
    int[] values;
    List<Integer> output;
    List<int[]> savedSource;
    Form savedForm;
    int[] savedInitial;

    int feed(char letter) {
        if (buffer.length() == 120) {
            throw new IllegalStateException();
        }
        buffer += letter;
        return buffer.length();
    }

    int parse() {
        String all = buffer;
        buffer = "";
        int error = errorIn(all);
        if (error >= 0) {
            return -100 - error;
        }
        List<int[]> read = new ArrayList<>();
        String[] lines = all.isEmpty() ? new String[0] : all.split(";", -1);
        for (String line : lines) {
            read.add(instructionOf(line, lines.length, source.size()));
        }
        if (source.size() + read.size() > 30) {
            throw new IllegalStateException();
        }
        source.addAll(read);
        return read.size();
    }

    private static int errorIn(String all) {
        if (all.isEmpty()) {
            return -1;
        }
        int offset = 0;
        for (String line : all.split(";", -1)) {
            int error = errorInLine(line);
            if (error >= 0) {
                return offset + error;
            }
            offset += line.length() + 1;
        }
        return -1;
    }

    private static int errorInLine(String line) {
        String name = line.replaceAll("(?s)[^a-z].*", "");
        int kind = List.of(NAMES).indexOf(name);
        if (kind < 0) {
            return 0;
        }
        String pattern = name;
        for (char operand : OPERANDS[kind].toCharArray()) {
            pattern += kind == 1 && operand == 'c' ? " -?[0-9][0-9]?" : " [0-9][0-9]?";
        }
        // The longest beginning that a match could still continue tells the error.
        for (int length = line.length(); length >= 0; length--) {
            String beginning = line.substring(0, length);
            if (length == line.length() && beginning.matches(pattern)) {
                return -1;
            }
            if (canContinue(beginning, pattern)) {
                return length;
            }
        }
        return 0;
    }

    private static boolean canContinue(String beginning, String pattern) {
        java.util.regex.Matcher matcher = java.util.regex.Pattern.compile(pattern).matcher(beginning);
        return matcher.matches() || matcher.hitEnd();
    }

    private static int[] instructionOf(String line, int lines, int start) {
        String[] words = line.split(" ");
        int[] instruction = new int[4];
        instruction[0] = List.of(NAMES).indexOf(words[0]);
        for (int i = 1; i < words.length; i++) {
            char operand = OPERANDS[instruction[0]].charAt(i - 1);
            int value = Integer.parseInt(words[i]);
            instruction[operand - 'a' + 1] = value;
            boolean isRegister = operand != 'c' || instruction[0] == 3 || instruction[0] == 4;
            boolean isOffset = operand == 'c' && (instruction[0] == 5 || instruction[0] == 6);
            boolean isTarget = operand == 'c' && instruction[0] >= 8;
            if (isRegister && value > 7 || isOffset && value > 15 || isTarget && value > lines) {
                throw new IllegalArgumentException();
            }
            instruction[operand - 'a' + 1] += isTarget ? start : 0;
        }
        return instruction;
    }

    int clear() {
        int size = source.size();
        source = new ArrayList<>();
        return size;
    }

    int instructions() {
        return source.size();
    }

    int instruction(int i, int what) {
        if (i < 0 || i >= source.size()) {
            throw new IndexOutOfBoundsException();
        }
        if (what < 0 || what > 3) {
            throw new IllegalArgumentException();
        }
        return source.get(i)[what];
    }

    private void change() {
        changes.add(form.copy());
        if (changes.size() > 8) {
            changes.remove(0);
        }
    }

    /** The items of the source, without slots; the end is the last one. */
    private Form plain() {
        Form plain = new Form();
        for (int i = 0; i < source.size(); i++) {
            Item item = new Item(source.get(i)[0]);
            item.operands = new int[] {source.get(i)[1], source.get(i)[2], item.isBranch() ? 0 : source.get(i)[3]};
            plain.items.add(i, item);
        }
        for (int i = 0; i < source.size(); i++) {
            Item item = plain.items.get(i);
            item.target = item.isBranch() ? plain.items.get(source.get(i)[3]) : null;
        }
        return plain;
    }

    int expand() {
        change();
        form = plain();
        for (Item item : form.items) {
            item.slot = item.isBranch() ? new Item(0) : null;
        }
        return entries();
    }

    int entries() {
        return form.entries().size() - 1;
    }

    private Item item(int i) {
        if (i < 0 || i >= entries()) {
            throw new IndexOutOfBoundsException();
        }
        return form.entries().get(i);
    }

    private boolean isSlot(Item item) {
        return !form.items.contains(item);
    }

    private long branchesTo(Item item) {
        return form.items.stream().filter(other -> other.target == item).count();
    }

    int entry(int i, int what) {
        Item item = item(i);
        switch (what) {
            case 0:
                return item.kind;
            case 1:
            case 2:
                return item.operands[what - 1];
            case 3:
                return item.isBranch() ? form.entries().indexOf(item.target) : item.operands[2];
            case 4:
                return isSlot(item) ? 1 : 0;
            case 5:
                return item.isAnnulling ? 1 : 0;
            case 6:
                return (int) branchesTo(item);
            default:
                throw new IllegalArgumentException();
        }
    }

    int count(int what) {
        switch (what) {
            case 0:
                return (int) form.items.stream().filter(Item::isBranch).count();
            case 1:
                return (int) form.items.stream().filter(item -> item.slot != null && item.slot.kind == 0).count();
            case 2:
                return (int) form.items.stream().filter(item -> item.isAnnulling).count();
            case 3:
                return (int) form.entries().stream().filter(item -> item.kind == 0).count();
            case 4:
                Set<Item> reached = new HashSet<>();
                reach(form.items.get(0), reached);
                reached.add(form.items.get(form.items.size() - 1));
                return form.items.size() - reached.size();
            default:
                throw new IllegalArgumentException();
        }
    }

    private void reach(Item item, Set<Item> reached) {
        if (!reached.add(item) || item.kind == END || item.kind == 11) {
            return;
        }
        if (item.isBranch()) {
            reach(item.target, reached);
        }
        if (item.kind != 10) {
            reach(form.following(item), reached);
        }
    }

    int live(int i) {
        Item item = i == entries() ? form.items.get(form.items.size() - 1) : item(i);
        if (isSlot(item)) {
            throw new IllegalStateException();
        }
        return liveBefore(item);
    }

    private int liveBefore(Item item) {
        int set = 0;
        for (int register = 0; register < 8; register++) {
            set |= isLive(register, item, new HashSet<>()) ? 1 << register : 0;
        }
        return set;
    }

    private boolean isLive(int register, Item item, Set<Item> seen) {
        if (item.kind == END || !seen.add(item)) {
            return false;
        }
        if (reads(item).contains(register)) {
            return true;
        }
        if (item.isBranch()) {
            return isLiveThrough(register, item.slot, item.target, seen)
                    || item.kind != 10 && item.isAnnulling && isLive(register, form.following(item), seen)
                    || item.kind != 10 && !item.isAnnulling
                    && isLiveThrough(register, item.slot, form.following(item), seen);
        }
        return item.kind != 11 && writes(item) != register && isLive(register, form.following(item), seen);
    }

    private boolean isLiveThrough(int register, Item slot, Item after, Set<Item> seen) {
        return reads(slot).contains(register) || writes(slot) != register && isLive(register, after, seen);
    }

    private static Set<Integer> reads(Item item) {
        int a = item.operands[0];
        int b = item.operands[1];
        int c = item.operands[2];
        switch (item.kind) {
            case 2:
            case 5:
                return Set.of(b);
            case 3:
            case 4:
                return new HashSet<>(List.of(b, c));
            case 6:
            case 8:
            case 9:
                return new HashSet<>(List.of(a, b));
            case 7:
                return Set.of(a);
            default:
                return Set.of();
        }
    }

    private static int writes(Item item) {
        return item.kind >= 1 && item.kind <= 5 ? item.operands[0] : -1;
    }

    boolean isIndependent(int i, int k) {
        return areIndependent(item(i), item(k));
    }

    private static boolean areIndependent(Item one, Item two) {
        boolean isOneInTwo = writes(one) >= 0 && (writes(one) == writes(two) || reads(two).contains(writes(one)));
        boolean isTwoInOne = writes(two) >= 0 && reads(one).contains(writes(two));
        boolean isMemory = one.kind == 6 && (two.kind == 5 || two.kind == 6) || one.kind == 5 && two.kind == 6;
        return !isOneInTwo && !isTwoInOne && !isMemory && !(one.kind == 7 && two.kind == 7);
    }

    int candidate(int branch, int way) {
        return form.entries().indexOf(candidateItem(branch, way));
    }

    private Item candidateItem(int branch, int way) {
        Item item = item(branch);
        if (way < 0 || way > 2) {
            throw new IllegalArgumentException();
        }
        if (!item.isBranch() || item.slot.kind != 0) {
            throw new IllegalStateException();
        }
        Item found = way == 0 ? before(item) : way == 1 ? atTarget(item) : fallThrough(item);
        if (found == null) {
            throw new java.util.NoSuchElementException();
        }
        return found;
    }

    private Item before(Item branch) {
        if (branchesTo(branch) > 0) {
            return null;
        }
        List<Item> between = new ArrayList<>(List.of(branch));
        for (int i = form.items.indexOf(branch) - 1; i >= 0; i--) {
            Item item = form.items.get(i);
            if (item.isBranch() || item.kind == 11) {
                return null;
            }
            if (item.kind != 0 && between.stream().allMatch(other -> areIndependent(item, other))) {
                return item;
            }
            if (branchesTo(item) > 0) {
                return null;
            }
            between.add(item);
        }
        return null;
    }

    private static Item atTarget(Item branch) {
        return branch.target.kind >= 1 && branch.target.kind <= 7 ? branch.target : null;
    }

    private Item fallThrough(Item branch) {
        Item item = form.following(branch);
        boolean isRight = branch.kind != 10 && item.kind >= 1 && item.kind <= 5 && branchesTo(item) == 0;
        return isRight && (liveBefore(branch.target) >> writes(item) & 1) == 0 ? item : null;
    }

    int fill(int branch, int way) {
        Item found = candidateItem(branch, way);
        int place = form.entries().indexOf(found);
        change();
        Item item = form.entries().get(branch);
        put(item, form.entries().get(place), way);
        return form.entries().indexOf(item);
    }

    private void put(Item branch, Item found, int way) {
        branch.slot = found.twin();
        Item next = form.following(found);
        if (way == 1) {
            branch.target = next;
            branch.isAnnulling = branch.kind != 10;
            return;
        }
        for (Item item : form.items) {
            item.target = item.target == found ? next : item.target;
        }
        form.items.remove(found);
    }

    int fillAll(int first, int second) {
        if (first < 0 || first > 2 || second < 0 || second > 2 || first == second) {
            throw new IllegalArgumentException();
        }
        change();
        int filled = 0;
        for (Item branch : new ArrayList<>(form.items)) {
            for (int way : new int[] {first, second, 3 - first - second}) {
                if (!branch.isBranch() || branch.slot.kind != 0) {
                    break;
                }
                Item found = way == 0 ? before(branch) : way == 1 ? atTarget(branch) : fallThrough(branch);
                if (found != null) {
                    put(branch, found, way);
                    filled++;
                }
            }
        }
        return filled;
    }

    int undo() {
        if (changes.isEmpty()) {
            throw new IllegalStateException();
        }
        form = changes.remove(changes.size() - 1);
        return changes.size();
    }

    int write() {
        text = "";
        for (int i = 0; i < entries(); i++) {
            Item item = item(i);
            text += i == 0 ? "" : isSlot(item) ? "|" : ";";
            text += NAMES[item.kind] + (item.isAnnulling ? "*" : "");
            for (char operand : OPERANDS[item.kind].toCharArray()) {
                text += " " + entry(i, operand - 'a' + 1);
            }
        }
        return text.length();
    }

    char text(int i) {
        if (i < 0 || i >= text.length()) {
            throw new IndexOutOfBoundsException();
        }
        return text.charAt(i);
    }

    private static int place(boolean isCell, int i) {
        if (i < 0 || i >= (isCell ? 16 : 8)) {
            throw new IndexOutOfBoundsException();
        }
        return isCell ? 8 + i : i;
    }

    int setInitial(boolean isCell, int i, int value) {
        int place = place(isCell, i);
        int previous = initial[place];
        initial[place] = value;
        return previous;
    }

    /** Executes a form, and answers the steps, or -1 if more than the limit would be needed. */
    private static int execute(Form program, int[] values, List<Integer> output, int limit) {
        int steps = 0;
        Item item = program.items.get(0);
        while (item.kind != END) {
            if (steps == limit) {
                return -1;
            }
            steps++;
            int a = values[item.operands[0]];
            int b = values[item.operands[1]];
            boolean isTaken = item.kind == 10 || item.kind == 8 && a == b || item.kind == 9 && a < b;
            if (item.kind == 11) {
                return steps;
            }
            perform(item, values, output);
            if (item.slot != null && (isTaken || !item.isAnnulling)) {
                if (steps == limit) {
                    return -1;
                }
                steps++;
                perform(item.slot, values, output);
            }
            item = isTaken ? item.target : program.following(item);
        }
        return steps;
    }

    private static void perform(Item item, int[] values, List<Integer> output) {
        int a = item.operands[0];
        int b = item.operands[1];
        int c = item.operands[2];
        if (item.kind == 1) {
            values[a] = c;
        } else if (item.kind == 2) {
            values[a] = values[b];
        } else if (item.kind == 3) {
            values[a] = values[b] + values[c];
        } else if (item.kind == 4) {
            values[a] = values[b] - values[c];
        } else if (item.kind == 5) {
            values[a] = values[8 + Math.floorMod(values[b] + c, 16)];
        } else if (item.kind == 6) {
            values[8 + Math.floorMod(values[b] + c, 16)] = values[a];
        } else if (item.kind == 7) {
            output.add(values[a]);
        }
    }

    int run(boolean isExpanded, int limit) {
        if (limit < 1 || limit > 2000) {
            throw new IllegalArgumentException();
        }
        int[] then = initial.clone();
        List<Integer> out = new ArrayList<>();
        int steps = execute(isExpanded ? form : plain(), then, out, limit);
        if (steps < 0) {
            throw new UnsupportedOperationException();
        }
        values = then;
        output = out;
        return steps;
    }

    int finalValue(boolean isCell, int i) {
        if (values == null) {
            throw new IllegalStateException();
        }
        return values[place(isCell, i)];
    }

    int outputs() {
        if (values == null) {
            throw new IllegalStateException();
        }
        return output.size();
    }

    int output(int i) {
        int size = outputs();
        if (i < 0 || i >= size) {
            throw new IndexOutOfBoundsException();
        }
        return output.get(i);
    }

    private static int draw(int s, int[] values) {
        for (int i = 0; i < 24; i++) {
            s = s * 1103515245 + 12345;
            values[i] = (s >>> 16) % 10;
        }
        return s;
    }

    int differences(int seed, int n) {
        checkNumber(n);
        Form plain = plain();
        int s = seed;
        int different = 0;
        for (int k = 0; k < n; k++) {
            int[] one = new int[24];
            s = draw(s, one);
            int[] two = one.clone();
            List<Integer> oneOut = new ArrayList<>();
            List<Integer> twoOut = new ArrayList<>();
            int oneSteps = execute(plain, one, oneOut, 300);
            int twoSteps = execute(form, two, twoOut, 300);
            boolean isSame = oneOut.equals(twoOut)
                    && java.util.Arrays.equals(one, 8, 24, two, 8, 24);
            different += oneSteps >= 0 && twoSteps >= 0 && !isSame ? 1 : 0;
        }
        return different;
    }

    double meanSteps(int seed, int n) {
        checkNumber(n);
        int s = seed;
        double sum = 0;
        for (int k = 0; k < n; k++) {
            int[] one = new int[24];
            s = draw(s, one);
            int steps = execute(form, one, new ArrayList<>(), 300);
            sum += steps < 0 ? 300 : steps;
        }
        return sum / n;
    }

    private static void checkNumber(int n) {
        if (n < 1 || n > 50) {
            throw new IllegalArgumentException();
        }
    }

    float filledShare() {
        if (count(0) == 0) {
            throw new ArithmeticException();
        }
        return (float) (count(0) - count(1)) / (float) count(0);
    }

    int save() {
        savedSource = new ArrayList<>(source);
        savedForm = form.copy();
        savedInitial = initial.clone();
        return source.size();
    }

    int restore() {
        if (savedSource == null) {
            throw new IllegalStateException();
        }
        source = new ArrayList<>(savedSource);
        form = savedForm.copy();
        initial = savedInitial.clone();
        changes.clear();
        return source.size();
    }
}
