import java.util.NoSuchElementException;

/**
 * A pruner of programs: blocks of instructions with jumps and branches; what must come after what,
 * which branches decide whether a block is run, and where values come from are found; everything
 * that nothing to be seen hangs on is swept away, branches among it, and the program can be run as
 * it was and as it is then.
 */
public final class CodePruner {
    public static final int NONE = -1;

    private static final int MOST_BLOCKS = 12;
    private static final int MOST_INSTRUCTIONS = 60;
    private static final int REGISTERS = 8;
    private static final int MOST_FUEL = 2000;
    private static final int MOST_KEPT = 50;

    private static final int SET = 0;
    private static final int COPY = 1;
    private static final int ADD = 2;
    private static final int TAKE = 3;
    private static final int TIMES = 4;
    private static final int OVER = 5;
    private static final int IN = 6;
    private static final int OUT = 7;

    private static final int RETURN = 0;
    private static final int JUMP = 1;
    private static final int BRANCH = 2;

    private static final int RETURNED = 0;
    private static final int TRAPPED = 1;
    private static final int OUT_OF_FUEL = 2;
    private static final int GOES_ON = 3;

    private static final long ALL_INSTRUCTIONS = -1L;

    private final Program program;
    private final Pruned pruning;
    private final Machine machine;
    private boolean isPruned;

    public CodePruner() {
        program = new Program();
        pruning = new Pruned();
        machine = new Machine();
        isPruned = false;
    }

    public int block() throws IllegalStateException {
        if (program.blocks >= MOST_BLOCKS) {
            throw new IllegalStateException();
        }
        forgetResults();
        return program.openBlock();
    }

    public int add(int x, int op, int a, int b, int c)
            throws NoSuchElementException, IllegalArgumentException, IllegalStateException {
        if (!program.hasBlock(x)) {
            throw new NoSuchElementException();
        }
        if (!isInstruction(op, a, b, c)) {
            throw new IllegalArgumentException();
        }
        if (program.instructions >= MOST_INSTRUCTIONS) {
            throw new IllegalStateException();
        }
        forgetResults();
        return program.append(x, op, a, b, c);
    }

    public void end(int x, int kind, int a, int b, int c)
            throws NoSuchElementException, IllegalArgumentException {
        if (!program.hasBlock(x)) {
            throw new NoSuchElementException();
        }
        if (!isEnd(kind, a, b, c)) {
            throw new IllegalArgumentException();
        }
        forgetResults();
        program.ends.put(x, kind, a, b, c);
    }

    public void clear() {
        forgetResults();
        program.empty();
    }

    public int prune() throws IllegalStateException, UnsupportedOperationException {
        if (program.blocks == 0) {
            throw new IllegalStateException();
        }
        if (!isSound()) {
            throw new UnsupportedOperationException();
        }
        // Every change of the program forgets the pruned one, so one that is there still holds.
        if (!isPruned) {
            pruning.make(program);
            isPruned = true;
        }
        return pruning.gone;
    }

    public int count(int what) {
        switch (what) {
            case 0:
                return program.blocks;
            case 1:
                return program.instructions;
            case 2:
                return isPruned ? pruning.becameJumps : NONE;
            default:
                return NONE;
        }
    }

    public int next(int x) throws NoSuchElementException {
        if (!isPruned || !program.hasBlock(x)) {
            throw new NoSuchElementException();
        }
        return pruning.flow.following[x];
    }

    public boolean depends(int x, int b) throws NoSuchElementException {
        if (!isPruned || !program.hasBlock(x) || !program.hasBlock(b)) {
            throw new NoSuchElementException();
        }
        return (pruning.flow.deciders[x] & 1 << b) != 0;
    }

    public boolean needed(int k) throws NoSuchElementException {
        if (!isPruned || k < 0 || k >= program.instructions) {
            throw new NoSuchElementException();
        }
        return pruning.needs.hasInstruction(k);
    }

    public int ends(int x, int what) throws NoSuchElementException {
        if (!isPruned || !program.hasBlock(x) || what < 0 || what > 2) {
            throw new NoSuchElementException();
        }
        if (what == 0) {
            return pruning.ends.kind[x];
        }
        return what == 1 ? pruning.ends.first[x] : pruning.ends.second[x];
    }

    public int run(boolean pruned, int input, int fuel)
            throws IllegalStateException, UnsupportedOperationException {
        if (program.blocks == 0 || pruned && !isPruned) {
            throw new IllegalStateException();
        }
        if (!program.leadsOnlyToBlocks()) {
            throw new UnsupportedOperationException();
        }
        int steps = Math.max(0, Math.min(fuel, MOST_FUEL));
        machine.begin(input, steps);
        if (pruned) {
            return machine.execute(program, pruning.ends, pruning.needs.instructions);
        }
        return machine.execute(program, program.ends, ALL_INSTRUCTIONS);
    }

    public int ran(int what) {
        switch (what) {
            case 0:
                return machine.steps;
            case 1:
                return machine.putOut;
            case 2:
                return machine.value;
            default:
                return NONE;
        }
    }

    public int out(int k) throws NoSuchElementException {
        if (k < 0 || k >= machine.putOut || k >= MOST_KEPT) {
            throw new NoSuchElementException();
        }
        return machine.kept[k];
    }

    private void forgetResults() {
        isPruned = false;
        machine.begin(0, 0);
    }

    private boolean isSound() {
        return program.leadsOnlyToBlocks()
                && Flow.findReturning(program, NONE) == program.allBlocks();
    }

    private static boolean isInstruction(int op, int a, int b, int c) {
        if (op < SET || op > OUT || !isRegister(a)) {
            return false;
        }
        if (op == COPY) {
            return isRegister(b);
        }
        if (op >= ADD && op <= OVER) {
            return isRegister(b) && isRegister(c);
        }
        return true;
    }

    private static boolean isEnd(int kind, int a, int b, int c) {
        switch (kind) {
            case RETURN:
                return isRegister(a);
            case JUMP:
                return mayBeBlock(b);
            case BRANCH:
                return isRegister(a) && mayBeBlock(b) && mayBeBlock(c);
            default:
                return false;
        }
    }

    private static boolean isRegister(int r) {
        return r >= 0 && r < REGISTERS;
    }

    private static boolean mayBeBlock(int x) {
        return x >= 0 && x < MOST_BLOCKS;
    }

    /** The ends of all blocks; a set of blocks is an int with bit x for block x. */
    private static final class Ends {
        final int[] kind = new int[MOST_BLOCKS];
        final int[] register = new int[MOST_BLOCKS];
        final int[] first = new int[MOST_BLOCKS];
        final int[] second = new int[MOST_BLOCKS];
        final int[] leads = new int[MOST_BLOCKS];

        void put(int x, int kindOfEnd, int a, int b, int c) {
            kind[x] = kindOfEnd;
            // A jump may be given any a: it is not kept, so that every register held here is one.
            register[x] = kindOfEnd == JUMP ? 0 : a;
            first[x] = kindOfEnd == RETURN ? NONE : b;
            second[x] = kindOfEnd == BRANCH ? c : NONE;
            leads[x] = setOf(first[x]) | setOf(second[x]);
        }

        void copyFrom(Ends other, int x) {
            put(x, other.kind[x], other.register[x], other.first[x], other.second[x]);
        }

        /** The registers that the end uses, bit r for register r. */
        int usedRegisters(int x) {
            return kind[x] == JUMP ? 0 : 1 << register[x];
        }

        private static int setOf(int x) {
            return x == NONE ? 0 : 1 << x;
        }
    }

    /** The program as it was written; a set of instructions is a long with bit k for number k. */
    private static final class Program {
        int blocks = 0;
        int instructions = 0;
        final int[] op = new int[MOST_INSTRUCTIONS];
        final int[] a = new int[MOST_INSTRUCTIONS];
        final int[] b = new int[MOST_INSTRUCTIONS];
        final int[] c = new int[MOST_INSTRUCTIONS];
        final int[] home = new int[MOST_INSTRUCTIONS];
        final int[] length = new int[MOST_BLOCKS];
        final int[][] rows = new int[MOST_BLOCKS][MOST_INSTRUCTIONS];
        final Ends ends = new Ends();

        void empty() {
            blocks = 0;
            instructions = 0;
        }

        int openBlock() {
            int x = blocks;
            length[x] = 0;
            ends.put(x, RETURN, 0, NONE, NONE);
            blocks++;
            return x;
        }

        int append(int x, int opOf, int aOf, int bOf, int cOf) {
            int k = instructions;
            op[k] = opOf;
            a[k] = aOf;
            b[k] = bOf;
            c[k] = cOf;
            home[k] = x;
            rows[x][length[x]] = k;
            length[x]++;
            instructions++;
            return k;
        }

        boolean hasBlock(int x) {
            return x >= 0 && x < blocks;
        }

        int allBlocks() {
            return (1 << blocks) - 1;
        }

        boolean leadsOnlyToBlocks() {
            int led = 0;
            for (int x = 0; x < blocks; x++) {
                led |= ends.leads[x];
            }
            return (led & ~allBlocks()) == 0;
        }

        /** The register that instruction k sets, or NONE. */
        int setRegister(int k) {
            return op[k] == OUT ? NONE : a[k];
        }

        /** The registers that instruction k uses, bit r for register r. */
        int usedRegisters(int k) {
            switch (op[k]) {
                case SET:
                case IN:
                    return 0;
                case COPY:
                    return 1 << b[k];
                case OUT:
                    return 1 << a[k];
                default:
                    return 1 << b[k] | 1 << c[k];
            }
        }
    }

    /** What must come after what, and which branches decide whether a block is run. */
    private static final class Flow {
        /** Bit b of row x: x post-dominates b. */
        final int[] dominated = new int[MOST_BLOCKS];
        final int[] following = new int[MOST_BLOCKS];
        /** Bit b of row x: x depends on b. */
        final int[] deciders = new int[MOST_BLOCKS];

        void find(Program p) {
            for (int x = 0; x < p.blocks; x++) {
                dominated[x] = p.allBlocks() & ~findReturning(p, x);
            }
            for (int x = 0; x < p.blocks; x++) {
                following[x] = findFollowing(p, x);
                deciders[x] = findDeciders(p, x);
            }
        }

        /** The blocks from which a way that does not pass block avoided leads to a return. */
        static int findReturning(Program p, int avoided) {
            int found = 0;
            boolean grew = true;
            // The shortest of such ways passes no block twice: as many rounds as blocks find all.
            for (int round = 0; round < p.blocks && grew; round++) {
                int before = found;
                for (int x = p.blocks - 1; x >= 0; x--) {
                    boolean leaves = p.ends.kind[x] == RETURN || (p.ends.leads[x] & found) != 0;
                    if (leaves && x != avoided) {
                        found |= 1 << x;
                    }
                }
                grew = found != before;
            }
            return found;
        }

        private boolean postDominates(int x, int b) {
            return (dominated[x] & 1 << b) != 0;
        }

        private int findFollowing(Program p, int b) {
            for (int x = 0; x < p.blocks; x++) {
                if (x != b && postDominates(x, b) && isBeforeOthers(p, x, b)) {
                    return x;
                }
            }
            return NONE;
        }

        private boolean isBeforeOthers(Program p, int x, int b) {
            for (int y = 0; y < p.blocks; y++) {
                if (y != b && postDominates(y, b) && !postDominates(y, x)) {
                    return false;
                }
            }
            return true;
        }

        private int findDeciders(Program p, int x) {
            int found = 0;
            for (int b = 0; b < p.blocks; b++) {
                boolean decides = p.ends.kind[b] == BRANCH && (p.ends.leads[b] & dominated[x]) != 0;
                boolean isSureAnyway = x != b && postDominates(x, b);
                if (decides && !isSureAnyway) {
                    found |= 1 << b;
                }
            }
            return found;
        }
    }

    /** Where values come from. */
    private static final class Sources {
        final long[] setters = new long[REGISTERS];
        final long[] atStart = new long[MOST_BLOCKS];
        final long[] ofInstruction = new long[MOST_INSTRUCTIONS];
        final long[] ofEnd = new long[MOST_BLOCKS];

        void find(Program p) {
            findSetters(p);
            for (int x = 0; x < p.blocks; x++) {
                atStart[x] = 0L;
            }
            boolean grew = true;
            // No value needs to go round more than all blocks once; a last round sees what came.
            for (int round = 0; round <= p.blocks && grew; round++) {
                grew = passOn(p);
            }
        }

        private void findSetters(Program p) {
            for (int r = 0; r < REGISTERS; r++) {
                setters[r] = 0L;
            }
            for (int k = 0; k < p.instructions; k++) {
                int r = p.setRegister(k);
                if (r != NONE) {
                    setters[r] |= 1L << k;
                }
            }
        }

        private boolean passOn(Program p) {
            boolean grew = false;
            for (int x = 0; x < p.blocks; x++) {
                long leaving = goThrough(p, x);
                for (int y = 0; y < p.blocks; y++) {
                    boolean leads = (p.ends.leads[x] & 1 << y) != 0;
                    if (leads && (leaving & ~atStart[y]) != 0L) {
                        atStart[y] |= leaving;
                        grew = true;
                    }
                }
            }
            return grew;
        }

        /** Answers the instructions that reach the place behind the block. */
        private long goThrough(Program p, int x) {
            long reaching = atStart[x];
            for (int i = 0; i < p.length[x]; i++) {
                int k = p.rows[x][i];
                ofInstruction[k] = reaching & settersOf(p.usedRegisters(k));
                int r = p.setRegister(k);
                if (r != NONE) {
                    reaching = reaching & ~setters[r] | 1L << k;
                }
            }
            ofEnd[x] = reaching & settersOf(p.ends.usedRegisters(x));
            return reaching;
        }

        private long settersOf(int registers) {
            long found = 0L;
            for (int r = 0; r < REGISTERS; r++) {
                if ((registers & 1 << r) != 0) {
                    found |= setters[r];
                }
            }
            return found;
        }
    }

    /** The instructions and ends that are needed. */
    private static final class Needs {
        long instructions = 0L;
        int ends = 0;

        void find(Program p, Flow flow, Sources sources) {
            begin(p);
            boolean grew = true;
            // Each round but the last adds one at least.
            for (int round = 0; round <= MOST_INSTRUCTIONS + MOST_BLOCKS && grew; round++) {
                grew = grow(p, flow, sources);
            }
        }

        boolean hasInstruction(int k) {
            return (instructions & 1L << k) != 0L;
        }

        boolean hasEnd(int x) {
            return (ends & 1 << x) != 0;
        }

        boolean hasSomethingIn(Program p, int x) {
            if (hasEnd(x)) {
                return true;
            }
            for (int i = 0; i < p.length[x]; i++) {
                if (hasInstruction(p.rows[x][i])) {
                    return true;
                }
            }
            return false;
        }

        private void begin(Program p) {
            instructions = 0L;
            ends = 0;
            for (int k = 0; k < p.instructions; k++) {
                if (p.op[k] >= OVER) {
                    instructions |= 1L << k;
                }
            }
            for (int x = 0; x < p.blocks; x++) {
                if (p.ends.kind[x] == RETURN) {
                    ends |= 1 << x;
                }
            }
        }

        private boolean grow(Program p, Flow flow, Sources sources) {
            long instructionsBefore = instructions;
            int endsBefore = ends;
            for (int k = p.instructions - 1; k >= 0; k--) {
                if (hasInstruction(k)) {
                    instructions |= sources.ofInstruction[k];
                    ends |= flow.deciders[p.home[k]];
                }
            }
            for (int x = 0; x < p.blocks; x++) {
                if (hasEnd(x)) {
                    instructions |= sources.ofEnd[x];
                    ends |= flow.deciders[x];
                }
            }
            return instructions != instructionsBefore || ends != endsBefore;
        }
    }

    /** The pruned program, and all that was found on the way to it. */
    private static final class Pruned {
        final Flow flow = new Flow();
        final Sources sources = new Sources();
        final Needs needs = new Needs();
        final Ends ends = new Ends();
        int gone = 0;
        int becameJumps = 0;

        /** The program must be sound. */
        void make(Program p) {
            flow.find(p);
            sources.find(p);
            needs.find(p, flow, sources);
            gone = p.instructions - Long.bitCount(needs.instructions);
            becameJumps = 0;
            for (int x = 0; x < p.blocks; x++) {
                makeEnd(p, x);
            }
        }

        private void makeEnd(Program p, int x) {
            if (p.ends.kind[x] == BRANCH && !needs.hasEnd(x)) {
                ends.put(x, JUMP, 0, findLanding(p, x), NONE);
                becameJumps++;
            } else {
                ends.copyFrom(p.ends, x);
            }
        }

        /**
         * There always is one: a block without a NEXT either returns or holds a branch on which,
         * directly or through other branches, a return depends; both are needed.
         */
        private int findLanding(Program p, int x) {
            int y = flow.following[x];
            for (int step = 0; step < MOST_BLOCKS && p.hasBlock(y); step++) {
                if (needs.hasSomethingIn(p, y)) {
                    return y;
                }
                y = flow.following[y];
            }
            return p.ends.first[x];
        }
    }

    /** Runs programs, and keeps what the latest run left. */
    private static final class Machine {
        final int[] registers = new int[REGISTERS];
        final int[] kept = new int[MOST_KEPT];
        int steps = 0;
        int putOut = 0;
        int value = 0;
        private int input = 0;
        private int taken = 0;
        private int fuel = 0;

        void begin(int inputOfRun, int fuelOfRun) {
            for (int r = 0; r < REGISTERS; r++) {
                registers[r] = 0;
            }
            steps = 0;
            putOut = 0;
            value = 0;
            input = inputOfRun;
            taken = 0;
            fuel = fuelOfRun;
        }

        int execute(Program p, Ends ends, long instructions) {
            int x = 0;
            // Each block costs the step of its end at least: there are no more rounds than fuel.
            for (int round = 0; round < fuel; round++) {
                int outcome = doInstructions(p, x, instructions);
                if (outcome != GOES_ON) {
                    return outcome;
                }
                if (steps >= fuel) {
                    return OUT_OF_FUEL;
                }
                steps++;
                int tested = registers[ends.register[x]];
                if (ends.kind[x] == RETURN) {
                    value = tested;
                    return RETURNED;
                }
                x = ends.kind[x] == JUMP || tested != 0 ? ends.first[x] : ends.second[x];
            }
            return OUT_OF_FUEL;
        }

        private int doInstructions(Program p, int x, long instructions) {
            for (int i = 0; i < p.length[x]; i++) {
                int k = p.rows[x][i];
                if ((instructions & 1L << k) != 0L) {
                    if (steps >= fuel) {
                        return OUT_OF_FUEL;
                    }
                    steps++;
                    if (p.op[k] == OVER && registers[p.c[k]] == 0) {
                        return TRAPPED;
                    }
                    doInstruction(p, k);
                }
            }
            return GOES_ON;
        }

        private void doInstruction(Program p, int k) {
            switch (p.op[k]) {
                case SET:
                    registers[p.a[k]] = p.b[k];
                    break;
                case COPY:
                    registers[p.a[k]] = registers[p.b[k]];
                    break;
                case IN:
                    registers[p.a[k]] = takeInput();
                    break;
                case OUT:
                    put(registers[p.a[k]]);
                    break;
                default:
                    registers[p.a[k]] = compute(p.op[k], registers[p.b[k]], registers[p.c[k]]);
                    break;
            }
        }

        private static int compute(int op, int left, int right) {
            switch (op) {
                case ADD:
                    return left + right;
                case TAKE:
                    return left - right;
                case TIMES:
                    return left * right;
                default:
                    return right == 0 ? 0 : left / right;
            }
        }

        private int takeInput() {
            int shift = 4 * (taken % 8);
            taken++;
            return (input >>> shift & 15) - 4;
        }

        private void put(int number) {
            if (putOut < MOST_KEPT) {
                kept[putOut] = number;
            }
            putOut++;
        }
    }
}
