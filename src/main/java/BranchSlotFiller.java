import java.util.NoSuchElementException;

/** A workbench for filling branch delay slots. */
public final class BranchSlotFiller {
    private static final int NONE = -1;
    private static final int REGISTERS = 8;
    private static final int CELLS = 16;
    private static final int MOST_LETTERS = 120;
    private static final int MOST_INSTRUCTIONS = 30;
    private static final int MOST_ENTRIES = 2 * MOST_INSTRUCTIONS;
    private static final int MOST_CHANGES = 8;
    private static final int MOST_STEPS = 2000;
    private static final int MOST_DRAWN_STEPS = 300;
    private static final int MOST_DRAWN = 50;

    private static final int FROM_BEFORE = 0;
    private static final int FROM_TARGET = 1;
    private static final int FROM_FALL_THROUGH = 2;
    private static final int WAYS = 3;

    // The parts of an instruction; the first four are numbered as the document does it.
    private static final int KIND = 0;
    private static final int A = 1;
    private static final int B = 2;
    private static final int C = 3;
    private static final int ANNULLING = 4;
    private static final int PARTS = 5;
    private static final int OPERANDS = 3;

    private static final Kind[] KINDS = Kind.values();

    private final TextReader reader;
    private final TextWriter writer;
    private final Program source;
    private final Program expanded;
    private final Flow flow;
    private final Filler filler;
    private final History history;
    private final int[] initial;
    private final int[] drawn;

    // kept and spare change places, so that a run that fails leaves the kept execution alone.
    private Machine kept;
    private Machine spare;
    private final Machine rival;
    private boolean hasKept;

    private final Program savedSource;
    private final Program savedExpanded;
    private final int[] savedInitial;
    private boolean hasSaved;

    public BranchSlotFiller() {
        reader = new TextReader();
        writer = new TextWriter();
        source = new Program(MOST_INSTRUCTIONS);
        expanded = new Program(MOST_ENTRIES);
        flow = new Flow(expanded);
        filler = new Filler(expanded, flow);
        history = new History();
        initial = new int[REGISTERS + CELLS];
        drawn = new int[REGISTERS + CELLS];
        kept = new Machine(MOST_STEPS);
        spare = new Machine(MOST_STEPS);
        rival = new Machine(MOST_DRAWN_STEPS);
        savedSource = new Program(MOST_INSTRUCTIONS);
        savedExpanded = new Program(MOST_ENTRIES);
        savedInitial = new int[REGISTERS + CELLS];
    }

    // ---- the source

    public int feed(char letter) throws IllegalStateException {
        if (!reader.takes(letter)) {
            throw new IllegalStateException("the buffer is full");
        }
        return reader.length;
    }

    public int parse() throws IllegalArgumentException, IllegalStateException {
        boolean isRight = reader.readsText();
        reader.length = 0;
        if (!isRight) {
            return -100 - reader.position;
        }
        Program part = reader.program;
        if (!reader.isInRange()) {
            throw new IllegalArgumentException("an operand is out of range");
        }
        if (source.size + part.size > MOST_INSTRUCTIONS) {
            throw new IllegalStateException("too many instructions");
        }
        source.appendAll(part);
        return part.size;
    }

    public int clear() {
        int size = source.size;
        source.size = 0;
        return size;
    }

    public int instructions() {
        return source.size;
    }

    public int instruction(int i, int what) throws IndexOutOfBoundsException, IllegalArgumentException {
        if (!source.has(i)) {
            throw new IndexOutOfBoundsException("no such instruction");
        }
        if (what < KIND || what > C) {
            throw new IllegalArgumentException("no such part");
        }
        return source.part(i, what);
    }

    // ---- the expanded form

    public int expand() {
        history.remember(expanded);
        expanded.expandFrom(source);
        return expanded.size;
    }

    public int entries() {
        return expanded.size;
    }

    public int entry(int i, int what) throws IndexOutOfBoundsException, IllegalArgumentException {
        if (!expanded.has(i)) {
            throw new IndexOutOfBoundsException("no such entry");
        }
        switch (what) {
            case 0:
            case 1:
            case 2:
            case 3:
                return expanded.part(i, what);
            case 4:
                return expanded.isSlot(i) ? 1 : 0;
            case 5:
                return expanded.part(i, ANNULLING);
            case 6:
                return expanded.branchesTo(i);
            default:
                throw new IllegalArgumentException("no such part");
        }
    }

    public int count(int what) throws IllegalArgumentException {
        switch (what) {
            case 0:
                return expanded.branches();
            case 1:
                return expanded.emptySlots();
            case 2:
                return expanded.annullingBranches();
            case 3:
                return expanded.nops();
            case 4:
                return flow.unreachable();
            default:
                throw new IllegalArgumentException("no such count");
        }
    }

    public int live(int i) throws IndexOutOfBoundsException, IllegalStateException {
        if (i < 0 || i > expanded.size) {
            throw new IndexOutOfBoundsException("no such entry");
        }
        if (expanded.isSlot(i)) {
            throw new IllegalStateException("the entry is a slot");
        }
        return flow.liveBefore(i);
    }

    public boolean isIndependent(int i, int k) throws IndexOutOfBoundsException {
        if (!expanded.has(i) || !expanded.has(k)) {
            throw new IndexOutOfBoundsException("no such entry");
        }
        return expanded.areIndependent(i, k);
    }

    public int candidate(int branch, int way) throws IndexOutOfBoundsException, IllegalArgumentException,
            IllegalStateException, NoSuchElementException {
        if (!expanded.has(branch)) {
            throw new IndexOutOfBoundsException("no such entry");
        }
        if (!isWay(way)) {
            throw new IllegalArgumentException("no such way");
        }
        if (!expanded.hasEmptySlot(branch)) {
            throw new IllegalStateException("no branch with a slot that holds nop");
        }
        int found = filler.find(branch, way);
        if (found == NONE) {
            throw new NoSuchElementException("no candidate");
        }
        return found;
    }

    public int fill(int branch, int way) throws IndexOutOfBoundsException, IllegalArgumentException,
            IllegalStateException, NoSuchElementException {
        int found = candidate(branch, way);
        history.remember(expanded);
        return filler.move(found, branch, way);
    }

    public int fillAll(int first, int second) throws IllegalArgumentException {
        if (!isWay(first) || !isWay(second) || first == second) {
            throw new IllegalArgumentException("no two different ways");
        }
        history.remember(expanded);
        return filler.fillEach(first, second);
    }

    public int undo() throws IllegalStateException {
        if (history.changes == 0) {
            throw new IllegalStateException("no change can be taken back");
        }
        history.takeBack(expanded);
        return history.changes;
    }

    public int write() {
        return writer.writeProgram(expanded);
    }

    public char text(int i) throws IndexOutOfBoundsException {
        if (i < 0 || i >= writer.length) {
            throw new IndexOutOfBoundsException("no such character");
        }
        return writer.letters[i];
    }

    private static boolean isWay(int way) {
        return way >= 0 && way < WAYS;
    }

    // ---- execution

    public int setInitial(boolean isCell, int i, int value) throws IndexOutOfBoundsException {
        int place = placeOf(isCell, i);
        if (place == NONE) {
            throw new IndexOutOfBoundsException("no such register or cell");
        }
        int previous = initial[place];
        initial[place] = value;
        return previous;
    }

    public int run(boolean isExpanded, int limit) throws IllegalArgumentException, UnsupportedOperationException {
        if (limit < 1 || limit > MOST_STEPS) {
            throw new IllegalArgumentException("the limit is out of range");
        }
        if (!spare.executes(isExpanded ? expanded : source, isExpanded, initial, limit)) {
            throw new UnsupportedOperationException("more steps are needed");
        }
        Machine earlier = kept;
        kept = spare;
        spare = earlier;
        hasKept = true;
        return kept.steps;
    }

    public int finalValue(boolean isCell, int i) throws IllegalStateException, IndexOutOfBoundsException {
        checkKept();
        int place = placeOf(isCell, i);
        if (place == NONE) {
            throw new IndexOutOfBoundsException("no such register or cell");
        }
        return kept.values[place];
    }

    public int outputs() throws IllegalStateException {
        checkKept();
        return kept.outputSize;
    }

    public int output(int i) throws IllegalStateException, IndexOutOfBoundsException {
        checkKept();
        if (i < 0 || i >= kept.outputSize) {
            throw new IndexOutOfBoundsException("no such output");
        }
        return kept.output[i];
    }

    public int differences(int seed, int n) throws IllegalArgumentException {
        checkDrawn(n);
        int different = 0;
        int s = seed;
        for (int k = 0; k < n; k++) {
            s = drawInitial(s);
            boolean isSourceEnded = spare.executes(source, false, drawn, MOST_DRAWN_STEPS);
            boolean isExpandedEnded = rival.executes(expanded, true, drawn, MOST_DRAWN_STEPS);
            if (isSourceEnded && isExpandedEnded && !spare.hasEffectsOf(rival)) {
                different++;
            }
        }
        return different;
    }

    public double meanSteps(int seed, int n) throws IllegalArgumentException {
        checkDrawn(n);
        int sum = 0;
        int s = seed;
        for (int k = 0; k < n; k++) {
            s = drawInitial(s);
            rival.executes(expanded, true, drawn, MOST_DRAWN_STEPS);
            sum += rival.steps;
        }
        return (double) sum / n;
    }

    public float filledShare() throws ArithmeticException {
        int branches = expanded.branches();
        if (branches == 0) {
            throw new ArithmeticException("no branches");
        }
        return (float) (branches - expanded.emptySlots()) / (float) branches;
    }

    private static int placeOf(boolean isCell, int i) {
        if (i < 0 || i >= (isCell ? CELLS : REGISTERS)) {
            return NONE;
        }
        return isCell ? REGISTERS + i : i;
    }

    private void checkKept() {
        if (!hasKept) {
            throw new IllegalStateException("no execution was kept");
        }
    }

    private static void checkDrawn(int n) {
        if (n < 1 || n > MOST_DRAWN) {
            throw new IllegalArgumentException("the number of executions is out of range");
        }
    }

    private int drawInitial(int seed) {
        int s = seed;
        for (int place = 0; place < drawn.length; place++) {
            s = s * 1103515245 + 12345;
            drawn[place] = (s >>> 16) % 10;
        }
        return s;
    }

    // ---- snapshots

    public int save() {
        savedSource.copyFrom(source);
        savedExpanded.copyFrom(expanded);
        System.arraycopy(initial, 0, savedInitial, 0, initial.length);
        hasSaved = true;
        return source.size;
    }

    public int restore() throws IllegalStateException {
        if (!hasSaved) {
            throw new IllegalStateException("nothing was saved");
        }
        source.copyFrom(savedSource);
        expanded.copyFrom(savedExpanded);
        System.arraycopy(savedInitial, 0, initial, 0, initial.length);
        history.changes = 0;
        return source.size;
    }

    /**
     * The kinds in the order of their numbers. The form has a sign for each of the operands a, b and c: w a register
     * that is written, r one that is read, n a number, o an offset, t a target, and - for none.
     */
    private enum Kind {
        NOP("nop", "---"),
        SET("set", "w-n"),
        COPY("copy", "wr-"),
        ADD("add", "wrr"),
        SUB("sub", "wrr"),
        LOAD("load", "wro"),
        STORE("store", "rro"),
        OUT("out", "r--"),
        EQUAL("equal", "rrt"),
        LESS("less", "rrt"),
        JUMP("jump", "--t"),
        HALT("halt", "---");

        private final String word;
        private final String form;
        private final boolean writesA;
        private final boolean readsA;
        private final boolean readsB;
        private final boolean readsC;
        private final boolean isBranch;
        private final boolean isConditional;

        Kind(String word, String form) {
            this.word = word;
            this.form = form;
            writesA = form.charAt(0) == 'w';
            readsA = form.charAt(0) == 'r';
            readsB = form.charAt(1) == 'r';
            readsC = form.charAt(2) == 'r';
            isBranch = form.charAt(2) == 't';
            isConditional = isBranch && readsA;
        }

        char sign(int operand) {
            return form.charAt(operand);
        }

        boolean isMemoryAccess() {
            return this == LOAD || this == STORE;
        }

        boolean canFill() {
            return this != NOP && this != HALT && !isBranch;
        }
    }

    /** A list of instructions: the source, or an expanded form, where the entry after a branch is its slot. */
    private static final class Program {
        private final int[] parts;
        private int size;

        Program(int most) {
            parts = new int[most * PARTS];
        }

        boolean has(int i) {
            return i >= 0 && i < size;
        }

        int part(int i, int what) {
            return parts[i * PARTS + what];
        }

        void put(int i, int what, int value) {
            parts[i * PARTS + what] = value;
        }

        Kind kind(int i) {
            return KINDS[parts[i * PARTS + KIND]];
        }

        int target(int i) {
            return parts[i * PARTS + C];
        }

        boolean isBranch(int i) {
            return KINDS[parts[i * PARTS + KIND]].isBranch;
        }

        // A slot is never a branch itself, so the entry before tells enough.
        boolean isSlot(int i) {
            return i > 0 && isBranch(i - 1);
        }

        boolean isAnnulling(int i) {
            return parts[i * PARTS + ANNULLING] == 1;
        }

        boolean hasEmptySlot(int i) {
            return isBranch(i) && kind(i + 1) == Kind.NOP;
        }

        void copyFrom(Program other) {
            size = other.size;
            System.arraycopy(other.parts, 0, parts, 0, size * PARTS);
        }

        void copyInstruction(int from, int to) {
            System.arraycopy(parts, from * PARTS, parts, to * PARTS, PARTS);
        }

        // All parts are set, as a longer program that stood here may have left others.
        int appendKind(int kind) {
            int i = size;
            size++;
            for (int what = 0; what < PARTS; what++) {
                put(i, what, 0);
            }
            put(i, KIND, kind);
            return i;
        }

        /** Appends instructions whose targets are counted from the first one of them. */
        void appendAll(Program other) {
            int start = size;
            for (int i = 0; i < other.size; i++) {
                int at = appendKind(other.part(i, KIND));
                put(at, A, other.part(i, A));
                put(at, B, other.part(i, B));
                put(at, C, other.isBranch(i) ? start + other.target(i) : other.part(i, C));
            }
        }

        void expandFrom(Program plain) {
            size = 0;
            for (int i = 0; i < plain.size; i++) {
                int at = appendKind(plain.part(i, KIND));
                put(at, A, plain.part(i, A));
                put(at, B, plain.part(i, B));
                put(at, C, plain.part(i, C));
                if (plain.isBranch(i)) {
                    put(at, C, plain.entryOf(plain.target(i)));
                    appendKind(0);
                }
            }
        }

        /** Answers which entry an instruction becomes, when each branch before it gets a slot. */
        private int entryOf(int instruction) {
            int entry = instruction;
            for (int i = 0; i < instruction; i++) {
                if (isBranch(i)) {
                    entry++;
                }
            }
            return entry;
        }

        /** Removes an instruction; the targets that were its number stay, and so mean the one that follows. */
        void remove(int i) {
            int following = (i + 1) * PARTS;
            System.arraycopy(parts, following, parts, i * PARTS, size * PARTS - following);
            size--;
            for (int k = 0; k < size; k++) {
                if (isBranch(k) && target(k) > i) {
                    put(k, C, target(k) - 1);
                }
            }
        }

        int branches() {
            int found = 0;
            for (int i = 0; i < size; i++) {
                if (isBranch(i)) {
                    found++;
                }
            }
            return found;
        }

        int emptySlots() {
            int found = 0;
            for (int i = 0; i < size; i++) {
                if (hasEmptySlot(i)) {
                    found++;
                }
            }
            return found;
        }

        int annullingBranches() {
            int found = 0;
            for (int i = 0; i < size; i++) {
                found += part(i, ANNULLING);
            }
            return found;
        }

        int nops() {
            int found = 0;
            for (int i = 0; i < size; i++) {
                if (kind(i) == Kind.NOP) {
                    found++;
                }
            }
            return found;
        }

        int branchesTo(int i) {
            int found = 0;
            for (int k = 0; k < size; k++) {
                if (isBranch(k) && target(k) == i) {
                    found++;
                }
            }
            return found;
        }

        /** The set of registers has bit r for register r. */
        int reads(int i) {
            int at = i * PARTS;
            Kind kind = KINDS[parts[at + KIND]];
            int set = kind.readsA ? 1 << parts[at + A] : 0;
            set |= kind.readsB ? 1 << parts[at + B] : 0;
            set |= kind.readsC ? 1 << parts[at + C] : 0;
            return set;
        }

        int writes(int i) {
            int at = i * PARTS;
            return KINDS[parts[at + KIND]].writesA ? 1 << parts[at + A] : 0;
        }

        boolean areIndependent(int i, int k) {
            if ((writes(i) & (reads(k) | writes(k))) != 0 || (writes(k) & reads(i)) != 0) {
                return false;
            }
            Kind one = kind(i);
            Kind two = kind(k);
            if (one.isMemoryAccess() && two.isMemoryAccess() && (one == Kind.STORE || two == Kind.STORE)) {
                return false;
            }
            return one != Kind.OUT || two != Kind.OUT;
        }
    }

    /** What could happen in an expanded form if each conditional branch could be taken or not. */
    private static final class Flow {
        private final Program program;
        private final int[] live = new int[MOST_ENTRIES + 1];
        private final int[] read = new int[MOST_ENTRIES];
        private final int[] written = new int[MOST_ENTRIES];
        private final boolean[] isReached = new boolean[MOST_ENTRIES + 1];

        Flow(Program program) {
            this.program = program;
        }

        /** Answers the registers that are live before an entry that is no slot, or at the end. */
        int liveBefore(int i) {
            for (int k = 0; k < program.size; k++) {
                read[k] = program.reads(k);
                written[k] = program.writes(k);
                live[k] = 0;
            }
            live[program.size] = 0;
            // Each round but the last one adds a register somewhere.
            boolean isGrowing = true;
            for (int round = 0; isGrowing && round <= MOST_ENTRIES * REGISTERS; round++) {
                isGrowing = false;
                for (int k = program.size - 1; k >= 0; k--) {
                    int set = program.isSlot(k) ? 0 : liveFromFollowing(k);
                    isGrowing = isGrowing || set != live[k];
                    live[k] = set;
                }
            }
            return live[i];
        }

        private int liveFromFollowing(int i) {
            Kind kind = program.kind(i);
            if (kind == Kind.HALT) {
                return 0;
            }
            if (!kind.isBranch) {
                return liveThrough(i, live[i + 1]);
            }
            int set = read[i] | liveThrough(i + 1, live[program.target(i)]);
            if (kind.isConditional) {
                set |= program.isAnnulling(i) ? live[i + 2] : liveThrough(i + 1, live[i + 2]);
            }
            return set;
        }

        private int liveThrough(int i, int after) {
            return read[i] | (after & ~written[i]);
        }

        int unreachable() {
            for (int k = 0; k <= program.size; k++) {
                isReached[k] = false;
            }
            isReached[0] = true;
            // Each round but the last one reaches another entry.
            boolean isGrowing = true;
            for (int round = 0; isGrowing && round <= MOST_ENTRIES; round++) {
                isGrowing = growReached();
            }
            int found = 0;
            for (int i = 0; i < program.size; i++) {
                if (!program.isSlot(i) && !isReached[i]) {
                    found++;
                }
            }
            return found;
        }

        private boolean growReached() {
            boolean isGrowing = false;
            for (int i = 0; i < program.size; i++) {
                if (!isReached[i]) {
                    continue;
                }
                Kind kind = program.kind(i);
                if (kind.isBranch) {
                    isGrowing = reach(program.target(i)) || isGrowing;
                }
                if (kind.isConditional) {
                    isGrowing = reach(i + 2) || isGrowing;
                }
                if (!kind.isBranch && kind != Kind.HALT) {
                    isGrowing = reach(i + 1) || isGrowing;
                }
            }
            return isGrowing;
        }

        private boolean reach(int i) {
            boolean isNew = !isReached[i];
            isReached[i] = true;
            return isNew;
        }
    }

    /** Finds candidates for slots in an expanded form, and fills slots with them. */
    private static final class Filler {
        private final Program program;
        private final Flow flow;

        Filler(Program program, Flow flow) {
            this.program = program;
            this.flow = flow;
        }

        /** Answers the candidate for a branch whose slot holds nop, or NONE. */
        int find(int branch, int way) {
            switch (way) {
                case FROM_BEFORE:
                    return findBefore(branch);
                case FROM_TARGET:
                    return findAtTarget(branch);
                case FROM_FALL_THROUGH:
                    return findInFallThrough(branch);
                default:
                    return NONE;
            }
        }

        private int findBefore(int branch) {
            if (program.branchesTo(branch) > 0) {
                return NONE;
            }
            for (int i = branch - 1; i >= 0; i--) {
                Kind kind = program.kind(i);
                if (kind.isBranch || kind == Kind.HALT || program.isSlot(i)) {
                    return NONE;
                }
                if (kind.canFill() && canPass(i, branch)) {
                    return i;
                }
                if (program.branchesTo(i) > 0) {
                    return NONE;
                }
            }
            return NONE;
        }

        private boolean canPass(int i, int branch) {
            for (int k = i + 1; k <= branch; k++) {
                if (!program.areIndependent(i, k)) {
                    return false;
                }
            }
            return true;
        }

        private int findAtTarget(int branch) {
            int i = program.target(branch);
            return program.has(i) && program.kind(i).canFill() ? i : NONE;
        }

        private int findInFallThrough(int branch) {
            int i = branch + 2;
            if (!program.kind(branch).isConditional || !program.has(i)) {
                return NONE;
            }
            Kind kind = program.kind(i);
            if (!kind.canFill() || kind == Kind.STORE || kind == Kind.OUT || program.branchesTo(i) > 0) {
                return NONE;
            }
            int needed = flow.liveBefore(program.target(branch));
            return (program.writes(i) & needed) == 0 ? i : NONE;
        }

        /** Moves or copies a candidate to the slot of its branch, and answers the number of the branch then. */
        int move(int found, int branch, int way) {
            program.copyInstruction(found, branch + 1);
            if (way == FROM_TARGET) {
                program.put(branch, C, found + 1);
                program.put(branch, ANNULLING, program.kind(branch).isConditional ? 1 : 0);
                return branch;
            }
            program.put(branch, ANNULLING, 0);
            program.remove(found);
            return way == FROM_BEFORE ? branch - 1 : branch;
        }

        int fillEach(int first, int second) {
            int third = FROM_BEFORE + FROM_TARGET + FROM_FALL_THROUGH - first - second;
            int filled = 0;
            int i = 0;
            // Each round brings i nearer to the end, also where a fill makes both numbers lower.
            for (int round = 0; round < MOST_ENTRIES && i < program.size; round++) {
                for (int turn = 0; turn < WAYS && program.hasEmptySlot(i); turn++) {
                    int way = turn == 0 ? first : turn == 1 ? second : third;
                    int found = find(i, way);
                    if (found != NONE) {
                        i = move(found, i, way);
                        filled++;
                    }
                }
                i += program.isBranch(i) ? 2 : 1;
            }
            return filled;
        }
    }

    /** The forms before the latest changes, in a ring. */
    private static final class History {
        private final Program[] forms = new Program[MOST_CHANGES];
        private int next;
        private int changes;

        History() {
            for (int i = 0; i < forms.length; i++) {
                forms[i] = new Program(MOST_ENTRIES);
            }
        }

        void remember(Program program) {
            forms[next].copyFrom(program);
            next = (next + 1) % MOST_CHANGES;
            changes = Math.min(changes + 1, MOST_CHANGES);
        }

        void takeBack(Program program) {
            next = (next + MOST_CHANGES - 1) % MOST_CHANGES;
            program.copyFrom(forms[next]);
            changes--;
        }
    }

    /** An execution: the values of the registers and then of the cells, and the output. */
    private static final class Machine {
        private final int[] values = new int[REGISTERS + CELLS];
        private final int[] output;
        private int outputSize;
        private int steps;

        Machine(int mostSteps) {
            output = new int[mostSteps];
        }

        /** Executes a program, and answers whether it has ended with the limit of steps or before. */
        boolean executes(Program program, boolean hasSlots, int[] start, int limit) {
            System.arraycopy(start, 0, values, 0, values.length);
            outputSize = 0;
            int at = 0;
            int afterSlot = NONE;
            for (steps = 0; steps < limit && at < program.size; steps++) {
                Kind kind = program.kind(at);
                if (kind.isBranch) {
                    boolean isTaken = conditionHolds(program, at);
                    int next = isTaken ? program.target(at) : at + (hasSlots ? 2 : 1);
                    boolean isSlotDue = hasSlots && (isTaken || !program.isAnnulling(at));
                    afterSlot = isSlotDue ? next : NONE;
                    at = isSlotDue ? at + 1 : next;
                } else if (kind == Kind.HALT) {
                    at = program.size;
                } else {
                    perform(program, at);
                    at = afterSlot == NONE ? at + 1 : afterSlot;
                    afterSlot = NONE;
                }
            }
            return at >= program.size;
        }

        private boolean conditionHolds(Program program, int i) {
            if (!program.kind(i).isConditional) {
                return true;
            }
            int left = values[program.part(i, A)];
            int right = values[program.part(i, B)];
            return program.kind(i) == Kind.EQUAL ? left == right : left < right;
        }

        private void perform(Program program, int i) {
            int a = program.part(i, A);
            int b = program.part(i, B);
            int c = program.part(i, C);
            switch (program.kind(i)) {
                case SET:
                    values[a] = c;
                    break;
                case COPY:
                    values[a] = values[b];
                    break;
                case ADD:
                    values[a] = values[b] + values[c];
                    break;
                case SUB:
                    values[a] = values[b] - values[c];
                    break;
                case LOAD:
                    values[a] = values[cellPlace(b, c)];
                    break;
                case STORE:
                    values[cellPlace(b, c)] = values[a];
                    break;
                case OUT:
                    output[outputSize] = values[a];
                    outputSize++;
                    break;
                default:
                    break;
            }
        }

        private int cellPlace(int register, int offset) {
            return REGISTERS + ((values[register] + offset) & (CELLS - 1));
        }

        boolean hasEffectsOf(Machine other) {
            if (outputSize != other.outputSize) {
                return false;
            }
            for (int i = 0; i < outputSize; i++) {
                if (output[i] != other.output[i]) {
                    return false;
                }
            }
            for (int place = REGISTERS; place < values.length; place++) {
                if (values[place] != other.values[place]) {
                    return false;
                }
            }
            return true;
        }
    }

    /** The input buffer, and the reading of its text. */
    private static final class TextReader {
        private final char[] letters = new char[MOST_LETTERS];
        private int length;
        private int position;
        private int number;
        private final Program program = new Program(MOST_INSTRUCTIONS);

        boolean takes(char letter) {
            if (length >= MOST_LETTERS) {
                return false;
            }
            letters[length] = letter;
            length++;
            return true;
        }

        /** Reads the buffer into the program; if the text is wrong, the position is that of the error. */
        boolean readsText() {
            position = 0;
            program.size = 0;
            boolean isRight = length == 0 || readsInstruction();
            for (int round = 0; round < MOST_LETTERS && isRight && position < length; round++) {
                isRight = passes(';') && readsInstruction();
            }
            return isRight;
        }

        private boolean readsInstruction() {
            int kind = readKind();
            // The buffer is too short for more instructions than that; the test guards the arrays all the same.
            if (kind == NONE || program.size >= MOST_INSTRUCTIONS) {
                return false;
            }
            int i = program.appendKind(kind);
            for (int operand = 0; operand < OPERANDS; operand++) {
                char sign = KINDS[kind].sign(operand);
                if (sign == '-') {
                    continue;
                }
                if (!passes(' ') || !readsNumber(sign == 'n')) {
                    return false;
                }
                program.put(i, A + operand, number);
            }
            return true;
        }

        private int readKind() {
            int start = position;
            int end = start;
            while (end < length && letters[end] >= 'a' && letters[end] <= 'z') {
                end++;
            }
            for (int kind = 0; kind < KINDS.length; kind++) {
                if (isWord(KINDS[kind].word, start, end)) {
                    position = end;
                    return kind;
                }
            }
            return NONE;
        }

        private boolean isWord(String word, int start, int end) {
            if (word.length() != end - start) {
                return false;
            }
            for (int i = start; i < end; i++) {
                if (letters[i] != word.charAt(i - start)) {
                    return false;
                }
            }
            return true;
        }

        private boolean readsNumber(boolean canBeNegative) {
            boolean isNegative = canBeNegative && passes('-');
            if (!isDigitNext()) {
                return false;
            }
            int value = letters[position] - '0';
            position++;
            if (isDigitNext()) {
                value = 10 * value + letters[position] - '0';
                position++;
            }
            number = isNegative ? -value : value;
            return true;
        }

        private boolean isDigitNext() {
            return position < length && letters[position] >= '0' && letters[position] <= '9';
        }

        private boolean passes(char letter) {
            if (position >= length || letters[position] != letter) {
                return false;
            }
            position++;
            return true;
        }

        boolean isInRange() {
            for (int i = 0; i < program.size; i++) {
                for (int operand = 0; operand < OPERANDS; operand++) {
                    if (program.part(i, A + operand) > greatest(program.kind(i).sign(operand))) {
                        return false;
                    }
                }
            }
            return true;
        }

        private int greatest(char sign) {
            if (sign == 'o') {
                return CELLS - 1;
            }
            if (sign == 't') {
                return program.size;
            }
            return sign == 'n' ? 99 : REGISTERS - 1;
        }
    }

    /** The text that was written last. */
    private static final class TextWriter {
        // The longest entry is "equal* 7 7 60" with the sign before it.
        private static final int MOST_OF_AN_ENTRY = 14;

        private final char[] letters = new char[MOST_ENTRIES * MOST_OF_AN_ENTRY];
        private int length;

        int writeProgram(Program program) {
            length = 0;
            for (int i = 0; i < program.size; i++) {
                if (i > 0) {
                    append(program.isSlot(i) ? '|' : ';');
                }
                writeInstruction(program, i);
            }
            return length;
        }

        private void writeInstruction(Program program, int i) {
            Kind kind = program.kind(i);
            for (int k = 0; k < kind.word.length(); k++) {
                append(kind.word.charAt(k));
            }
            if (program.isAnnulling(i)) {
                append('*');
            }
            for (int operand = 0; operand < OPERANDS; operand++) {
                if (kind.sign(operand) != '-') {
                    append(' ');
                    writeNumber(program.part(i, A + operand));
                }
            }
        }

        private void writeNumber(int value) {
            int size = Math.abs(value);
            if (value < 0) {
                append('-');
            }
            if (size >= 10) {
                append((char) ('0' + size / 10));
            }
            append((char) ('0' + size % 10));
        }

        private void append(char letter) {
            if (length < letters.length) {
                letters[length] = letter;
                length++;
            }
        }
    }
}
