/** One part for each promise of the document: ordinary inputs, its edges, wrong inputs. */
public final class PromisesTest extends Checks {
    public static void main(String[] args) {
        newObject();
        block();
        add();
        addGrowsInOrder();
        end();
        clear();
        changesForgetResults();
        prune();
        soundness();
        count();
        next();
        nextAmongManyReturns();
        depends();
        needed();
        neededAlongLoops();
        neededOnUnreachedBlocks();
        ends();
        runOfInstructions();
        runOfInput();
        runWithFuel();
        runOfPrunedProgram();
        runThrows();
        ran();
        out();
        finish();
    }

    private static void newObject() {
        CodePruner p = new CodePruner();
        due("NONE", NONE, -1);
        due("new: count(0)", p.count(0), 0);
        due("new: count(1)", p.count(1), 0);
        due("new: count(2)", p.count(2), NONE);
        due("new: ran(0)", p.ran(0), 0);
        dueThrow("new: add", ELEMENT, () -> p.add(0, SET, 0, 0, 0));
        dueThrow("new: end", ELEMENT, () -> endOf(p, 0, RETURN, 0, 0, 0));
        dueThrow("new: run", STATE, () -> p.run(false, 0, 1));
        dueThrow("new: out", ELEMENT, () -> p.out(0));
        due("objects are apart", withBlocks(2).count(0) + new CodePruner().count(0), 2);
    }

    private static void block() {
        CodePruner p = withBlocks(12);
        p.add(11, OUT, 0, 0, 0);
        p.prune();
        p.run(true, 0, 10);
        dueThrow("13th block", STATE, p::block);
        due("13th block: count(0)", p.count(0), 12);
        due("13th block changes nothing: count(2)", p.count(2), 0);
        due("13th block changes nothing: ran(0)", p.ran(0), 1);
        p.clear();
        due("block without an end returns register 0", returnOfBareBlock(p), 7);
    }

    private static int returnOfBareBlock(CodePruner p) {
        p.block();
        p.add(0, SET, 0, 7, 0);
        p.add(0, SET, 1, 8, 0);
        p.run(false, 0, 10);
        return p.ran(2);
    }

    private static void add() {
        CodePruner p = withBlocks(2);
        dueThrow("add to block -1", ELEMENT, () -> p.add(-1, SET, 0, 0, 0));
        dueThrow("add to block 2", ELEMENT, () -> p.add(2, SET, 0, 0, 0));
        dueThrow("add to no block, wrong op", ELEMENT, () -> p.add(2, 9, 0, 0, 0));
        for (int op : new int[] {-1, 8, Integer.MIN_VALUE, Integer.MAX_VALUE}) {
            dueThrow("add of op " + op, ARGUMENT, () -> p.add(0, op, 0, 0, 0));
        }
        for (int op = SET; op <= OUT; op++) {
            addOfWrongRegisters(p, op);
        }
        due("nothing was added", p.count(1), 0);
        due("SET takes any b and c", p.add(0, SET, 7, Integer.MIN_VALUE, 99), 0);
        due("COPY takes any c", p.add(0, COPY, 7, 0, -5), 1);
        due("IN takes any b and c", p.add(0, IN, 0, 8, -1), 2);
        due("OUT takes any b and c", p.add(0, OUT, 7, -1, 8), 3);
        due("ADD at the edge", p.add(1, ADD, 7, 7, 7), 4);
        fillUp(p);
        due("full: count(1)", p.count(1), 60);
        p.prune();
        dueThrow("61st", STATE, () -> p.add(0, SET, 0, 0, 0));
        dueThrow("61st, wrong op", ARGUMENT, () -> p.add(0, 8, 0, 0, 0));
        dueThrow("61st, wrong register", ARGUMENT, () -> p.add(0, TIMES, 0, 0, 8));
        dueThrow("61st, no block", ELEMENT, () -> p.add(2, SET, 0, 0, 0));
        due("61st changes nothing: count(1)", p.count(1), 60);
        due("61st changes nothing: count(2)", p.count(2), 0);
        due("the 60th can be asked for", p.needed(59), false);
    }

    private static void fillUp(CodePruner p) {
        for (int k = p.count(1); k < 60; k++) {
            due("add", p.add(k % 2, SET, k % 8, k, 0), k);
        }
    }

    private static void addOfWrongRegisters(CodePruner p, int op) {
        for (int r : new int[] {-1, 8, Integer.MIN_VALUE, Integer.MAX_VALUE}) {
            dueThrow("op " + op + ", a " + r, ARGUMENT, () -> p.add(0, op, r, 0, 0));
            if (op >= COPY && op <= OVER) {
                dueThrow("op " + op + ", b " + r, ARGUMENT, () -> p.add(0, op, 0, r, 0));
            }
            if (op >= ADD && op <= OVER) {
                dueThrow("op " + op + ", c " + r, ARGUMENT, () -> p.add(0, op, 0, 0, r));
            }
        }
    }

    private static void addGrowsInOrder() {
        CodePruner p = withBlocks(2);
        p.add(1, SET, 1, 5, 0);
        p.add(0, SET, 1, 3, 0);
        p.add(1, OUT, 1, 0, 0);
        p.add(0, OUT, 1, 0, 0);
        p.end(0, JUMP, 0, 1, 0);
        p.run(false, 0, 100);
        due("order: out(0)", p.out(0), 3);
        due("order: out(1)", p.out(1), 5);
        due("order: ran(0)", p.ran(0), 6);
    }

    private static void end() {
        CodePruner p = withBlocks(2);
        dueThrow("end of block -1", ELEMENT, () -> endOf(p, -1, RETURN, 0, 0, 0));
        dueThrow("end of block 2", ELEMENT, () -> endOf(p, 2, RETURN, 0, 0, 0));
        dueThrow("end of no block, wrong kind", ELEMENT, () -> endOf(p, 2, 7, 0, 0, 0));
        dueThrow("kind -1", ARGUMENT, () -> endOf(p, 0, -1, 0, 0, 0));
        dueThrow("kind 3", ARGUMENT, () -> endOf(p, 0, 3, 0, 0, 0));
        for (int r : new int[] {-1, 8, Integer.MIN_VALUE, Integer.MAX_VALUE}) {
            dueThrow("return of " + r, ARGUMENT, () -> endOf(p, 0, RETURN, r, 0, 0));
            dueThrow("branch on " + r, ARGUMENT, () -> endOf(p, 0, BRANCH, r, 0, 0));
            due("jump with a " + r, endOf(p, 0, JUMP, r, 1, r), DONE);
        }
        for (int x : new int[] {-1, 12, Integer.MIN_VALUE, Integer.MAX_VALUE}) {
            dueThrow("jump to " + x, ARGUMENT, () -> endOf(p, 0, JUMP, 0, x, 0));
            dueThrow("branch to b " + x, ARGUMENT, () -> endOf(p, 0, BRANCH, 0, x, 0));
            dueThrow("branch to c " + x, ARGUMENT, () -> endOf(p, 0, BRANCH, 0, 0, x));
            due("return with b, c " + x, endOf(p, 1, RETURN, 7, x, x), DONE);
        }
        p.prune();
        p.run(false, 0, 9);
        due("a jump of any a runs", p.ran(0), 2);
        dueThrow("wrong end", ARGUMENT, () -> endOf(p, 0, 3, 0, 0, 0));
        due("a wrong end changes nothing: ends", p.ends(0, 1), 1);
        due("a wrong end changes nothing: ran(0)", p.ran(0), 2);
        due("a jump to where no block is", endOf(p, 0, JUMP, 0, 11, 0), DONE);
        dueThrow("a jump to where no block is: run", UNSUPPORTED, () -> p.run(false, 0, 9));
        due("an end instead", endOf(p, 0, RETURN, 0, 0, 0), DONE);
        due("an end instead: run", p.run(false, 0, 1), 0);
    }

    private static void clear() {
        CodePruner p = withBlocks(2);
        p.add(0, SET, 0, 5, 0);
        p.add(1, OUT, 0, 0, 0);
        p.end(0, JUMP, 0, 1, 0);
        p.prune();
        p.run(true, 0, 100);
        p.clear();
        due("clear: count(0)", p.count(0), 0);
        due("clear: count(1)", p.count(1), 0);
        due("clear: count(2)", p.count(2), NONE);
        due("clear: ran(0)", p.ran(0), 0);
        dueThrow("clear: prune", STATE, p::prune);
        dueThrow("clear: out", ELEMENT, () -> p.out(0));
        due("clear: block", p.block(), 0);
        p.prune();
        due("clear: the old end is gone", p.ends(0, 0), RETURN);
        p.run(false, 0, 9);
        due("clear: the old instructions are gone", p.ran(0), 1);
        due("clear: add", p.add(0, SET, 0, 0, 0), 0);
    }

    private static CodePruner prunedAndRun() {
        CodePruner p = withBlocks(1);
        p.add(0, SET, 0, 5, 0);
        p.add(0, OUT, 0, 0, 0);
        p.prune();
        p.run(true, 0, 100);
        due("before: count(2)", p.count(2), 0);
        due("before: ran(0)", p.ran(0), 3);
        return p;
    }

    private static void changesForgetResults() {
        for (int change = 0; change < 3; change++) {
            CodePruner p = prunedAndRun();
            if (change == 0) {
                p.block();
            } else if (change == 1) {
                p.add(0, SET, 1, 1, 0);
            } else {
                p.end(0, RETURN, 0, 0, 0);
            }
            String after = "after change " + change + ": ";
            due(after + "count(2)", p.count(2), NONE);
            due(after + "ran(0)", p.ran(0), 0);
            due(after + "ran(1)", p.ran(1), 0);
            due(after + "ran(2)", p.ran(2), 0);
            dueThrow(after + "out", ELEMENT, () -> p.out(0));
            dueThrow(after + "next", ELEMENT, () -> p.next(0));
            dueThrow(after + "depends", ELEMENT, () -> p.depends(0, 0));
            dueThrow(after + "needed", ELEMENT, () -> p.needed(0));
            dueThrow(after + "ends", ELEMENT, () -> p.ends(0, 0));
            dueThrow(after + "run", STATE, () -> p.run(true, 0, 9));
        }
        CodePruner p = prunedAndRun();
        p.prune();
        due("prune leaves the run: ran(0)", p.ran(0), 3);
        due("prune leaves the run: out(0)", p.out(0), 5);
    }

    private static void prune() {
        CodePruner p = withBlocks(1);
        due("prune of nothing", p.prune(), 0);
        p.add(0, SET, 0, 1, 0);
        p.add(0, SET, 1, 2, 0);
        p.add(0, SET, 0, 3, 0);
        due("two of three go", p.prune(), 2);
        due("again", p.prune(), 2);
        due("all are still counted", p.count(1), 3);
        p.add(0, OUT, 1, 0, 0);
        due("one of four goes", p.prune(), 1);
        p.end(0, RETURN, 5, 0, 0);
        due("one more goes", p.prune(), 2);
    }

    private static void soundness() {
        CodePruner p = withBlocks(3);
        p.end(0, JUMP, 0, 0, 0);
        dueThrow("a jump to itself", UNSUPPORTED, p::prune);
        due("a jump to itself runs", p.run(false, 0, 5), 2);
        p.end(0, BRANCH, 0, 0, 0);
        dueThrow("a branch to itself", UNSUPPORTED, p::prune);
        p.end(0, BRANCH, 0, 0, 1);
        due("a branch out", p.prune(), 0);
        p.end(0, RETURN, 0, 0, 0);
        p.end(1, JUMP, 0, 2, 0);
        p.end(2, JUMP, 0, 1, 0);
        dueThrow("a round that block 0 does not see", UNSUPPORTED, p::prune);
        p.end(2, BRANCH, 0, 1, 3);
        dueThrow("a block that is not there", UNSUPPORTED, p::prune);
        p.end(2, BRANCH, 0, 3, 0);
        dueThrow("a way out, and a block that is not there", UNSUPPORTED, p::prune);
        due("count(2) of no pruned program", p.count(2), NONE);
        p.block();
        due("it is there now", p.prune(), 0);
    }

    private static void count() {
        CodePruner p = withBlocks(3);
        p.add(0, IN, 1, 0, 0);
        p.add(2, OUT, 1, 0, 0);
        p.end(0, BRANCH, 1, 1, 2);
        p.end(1, JUMP, 0, 2, 0);
        due("count(0)", p.count(0), 3);
        due("count(1)", p.count(1), 2);
        due("count(2) before", p.count(2), NONE);
        p.prune();
        due("count(2)", p.count(2), 1);
        for (int what : new int[] {-1, 3, Integer.MIN_VALUE, Integer.MAX_VALUE}) {
            due("count(" + what + ")", p.count(what), NONE);
        }
        p.end(1, BRANCH, 1, 2, 2);
        p.prune();
        due("count(2) of two", p.count(2), 2);
        p.add(1, OUT, 1, 0, 0);
        p.prune();
        due("count(2): one decides now", p.count(2), 1);
    }

    /** 0 to 1 or 2, both to 3, which returns to 0 or goes on to 4; 5 leads in from aside. */
    private static CodePruner diamond() {
        CodePruner p = withBlocks(6);
        p.end(0, BRANCH, 0, 1, 2);
        p.end(1, JUMP, 0, 3, 0);
        p.end(2, JUMP, 0, 3, 0);
        p.end(3, BRANCH, 1, 0, 4);
        p.end(4, RETURN, 0, 0, 0);
        p.end(5, JUMP, 0, 1, 0);
        return p;
    }

    private static void next() {
        CodePruner p = diamond();
        dueThrow("next before", ELEMENT, () -> p.next(0));
        p.prune();
        int[] want = {3, 3, 3, 4, NONE, 1};
        for (int x = 0; x < 6; x++) {
            due("diamond: next(" + x + ")", p.next(x), want[x]);
        }
        dueThrow("next(-1)", ELEMENT, () -> p.next(-1));
        dueThrow("next(6)", ELEMENT, () -> p.next(6));
        dueThrow("next(12)", ELEMENT, () -> p.next(12));
    }

    private static void nextAmongManyReturns() {
        CodePruner p = withBlocks(5);
        p.end(0, JUMP, 0, 1, 0);
        p.end(1, BRANCH, 0, 2, 3);
        p.end(3, JUMP, 0, 4, 0);
        p.prune();
        int[] want = {1, NONE, NONE, 4, NONE};
        for (int x = 0; x < 5; x++) {
            due("returns: next(" + x + ")", p.next(x), want[x]);
        }
        due("the branch between returns stays", p.ends(1, 0), BRANCH);
    }

    private static void depends() {
        CodePruner p = diamond();
        dueThrow("depends before", ELEMENT, () -> p.depends(0, 0));
        p.prune();
        String[] want = {"000100", "100000", "100000", "000100", "000000", "000000"};
        for (int x = 0; x < 6; x++) {
            for (int b = 0; b < 6; b++) {
                due("diamond: depends(" + x + ", " + b + ")", p.depends(x, b), want[x].charAt(b) == '1');
            }
        }
        for (int no : new int[] {-1, 6, 12, Integer.MIN_VALUE, Integer.MAX_VALUE}) {
            dueThrow("depends(" + no + ", 0)", ELEMENT, () -> p.depends(no, 0));
            dueThrow("depends(0, " + no + ")", ELEMENT, () -> p.depends(0, no));
        }
        CodePruner q = withBlocks(2);
        q.end(0, BRANCH, 0, 1, 1);
        q.prune();
        due("both ways to one block", q.depends(1, 0), false);
        due("it does not depend on itself", q.depends(0, 0), false);
        due("it becomes a jump", q.ends(0, 0), JUMP);
    }

    private static void needed() {
        CodePruner p = withBlocks(1);
        p.add(0, SET, 1, 4, 0);
        p.add(0, COPY, 2, 1, 0);
        p.add(0, ADD, 3, 2, 2);
        p.add(0, TAKE, 4, 3, 1);
        p.add(0, TIMES, 5, 4, 2);
        dueThrow("needed before", ELEMENT, () -> p.needed(0));
        dueNeeded("no use", p, "00000");
        p.end(0, RETURN, 5, 0, 0);
        dueNeeded("a return uses all", p, "11111");
        p.end(0, RETURN, 3, 0, 0);
        dueNeeded("a return uses some", p, "11100");
        p.end(0, RETURN, 7, 0, 0);
        p.add(0, IN, 4, 0, 0);
        p.add(0, OVER, 6, 3, 4);
        p.add(0, SET, 5, 0, 0);
        p.add(0, OUT, 5, 0, 0);
        dueNeeded("IN, OVER and OUT", p, "111001111");
        dueThrow("needed(-1)", ELEMENT, () -> p.needed(-1));
        dueThrow("needed(9)", ELEMENT, () -> p.needed(9));
        dueThrow("needed(64)", ELEMENT, () -> p.needed(64));
    }

    private static void neededAlongLoops() {
        CodePruner p = withBlocks(3);
        p.add(0, SET, 1, 3, 0);
        p.add(0, SET, 2, 1, 0);
        p.add(1, OUT, 4, 0, 0);
        p.add(1, TAKE, 1, 1, 2);
        p.add(1, TIMES, 5, 5, 1);
        p.add(1, COPY, 4, 3, 0);
        p.add(1, COPY, 3, 1, 0);
        p.end(0, JUMP, 0, 1, 0);
        p.end(1, BRANCH, 1, 1, 2);
        dueNeeded("values come round the loop", p, "1111011");
        due("the loop's branch stays", p.ends(1, 0), BRANCH);
        p.add(1, SET, 4, 0, 0);
        dueNeeded("a later one hides an earlier one", p, "11110001");
        CodePruner q = withBlocks(3);
        q.add(0, SET, 1, 3, 0);
        q.add(0, SET, 2, 1, 0);
        q.add(1, TAKE, 1, 1, 2);
        q.end(0, JUMP, 0, 1, 0);
        q.end(1, BRANCH, 1, 1, 2);
        dueNeeded("a loop for itself alone", q, "000");
        due("its branch goes", q.ends(1, 0), JUMP);
    }

    private static void neededOnUnreachedBlocks() {
        CodePruner p = withBlocks(2);
        p.add(1, SET, 0, 3, 0);
        p.end(1, JUMP, 0, 0, 0);
        dueNeeded("what block 0 does not see counts, too", p, "1");
    }

    private static void ends() {
        CodePruner p = diamond();
        p.add(4, OUT, 5, 0, 0);
        dueThrow("ends before", ELEMENT, () -> p.ends(0, 0));
        p.prune();
        dueEnd(p, 0, JUMP, 4, NONE);
        dueEnd(p, 1, JUMP, 3, NONE);
        dueEnd(p, 2, JUMP, 3, NONE);
        dueEnd(p, 3, JUMP, 4, NONE);
        dueEnd(p, 4, RETURN, NONE, NONE);
        due("three are passed over", p.count(2), 2);
        p.add(3, IN, 1, 0, 0);
        p.prune();
        dueEnd(p, 0, JUMP, 3, NONE);
        dueEnd(p, 3, BRANCH, 0, 4);
        p.add(2, OUT, 1, 0, 0);
        p.prune();
        dueEnd(p, 0, BRANCH, 1, 2);
        for (int no : new int[] {-1, 3, Integer.MIN_VALUE, Integer.MAX_VALUE}) {
            dueThrow("ends(0, " + no + ")", ELEMENT, () -> p.ends(0, no));
        }
        for (int no : new int[] {-1, 6, 12}) {
            dueThrow("ends(" + no + ", 0)", ELEMENT, () -> p.ends(no, 0));
        }
        endWithNeededBranchAlone();
    }

    /** Block 2 holds no needed instruction, but a needed branch: jumps must not pass it over. */
    private static void endWithNeededBranchAlone() {
        CodePruner p = withBlocks(5);
        p.end(0, BRANCH, 1, 1, 2);
        p.end(1, JUMP, 0, 2, 0);
        p.end(2, BRANCH, 2, 3, 4);
        p.add(3, OUT, 0, 0, 0);
        p.end(3, JUMP, 0, 4, 0);
        p.prune();
        dueEnd(p, 0, JUMP, 2, NONE);
        dueEnd(p, 2, BRANCH, 3, 4);
    }

    private static void dueEnd(CodePruner p, int x, int kind, int first, int second) {
        due("ends(" + x + ", 0)", p.ends(x, 0), kind);
        due("ends(" + x + ", 1)", p.ends(x, 1), first);
        due("ends(" + x + ", 2)", p.ends(x, 2), second);
    }

    private static void dueValue(String what, int op, int left, int right, int want) {
        CodePruner p = withBlocks(1);
        p.add(0, SET, 1, left, 0);
        p.add(0, SET, 2, right, 0);
        p.add(0, op, 3, 1, 2);
        p.end(0, RETURN, 3, 0, 0);
        due(what + ": run", p.run(false, 0, 4), 0);
        due(what, p.ran(2), want);
    }

    private static void runOfInstructions() {
        int most = Integer.MAX_VALUE;
        int least = Integer.MIN_VALUE;
        dueValue("COPY", COPY, 8, 9, 8);
        dueValue("ADD", ADD, 8, -9, -1);
        dueValue("ADD wraps", ADD, most, 1, least);
        dueValue("TAKE", TAKE, 8, 9, -1);
        dueValue("TAKE wraps", TAKE, least, 1, most);
        dueValue("TIMES", TIMES, -8, 9, -72);
        dueValue("TIMES wraps", TIMES, 65536, 65536, 0);
        dueValue("OVER", OVER, 17, 5, 3);
        dueValue("OVER goes toward 0", OVER, -17, 5, -3);
        dueValue("OVER wraps", OVER, least, -1, least);
        dueValue("OVER of 0", OVER, 0, 5, 0);
        CodePruner p = withBlocks(3);
        p.add(0, SET, 1, -1, 0);
        p.end(0, BRANCH, 1, 1, 2);
        p.add(1, OUT, 1, 0, 0);
        p.run(false, 0, 9);
        due("a branch on -1 goes to b", p.ran(1), 1);
        p.end(0, BRANCH, 2, 1, 2);
        p.run(false, 0, 9);
        due("a branch on 0 goes to c", p.ran(1), 0);
        CodePruner q = withBlocks(1);
        q.add(0, OUT, 1, 0, 0);
        q.add(0, SET, 1, 9, 0);
        q.run(false, 0, 9);
        q.run(false, 0, 9);
        due("registers begin with 0 in each run", q.out(0), 0);
    }

    private static void runOfInput() {
        CodePruner p = withBlocks(1);
        for (int k = 0; k < 9; k++) {
            p.add(0, IN, 1, 0, 0);
            p.add(0, OUT, 1, 0, 0);
        }
        int[] want = {-4, -3, -2, 7, 8, 9, 10, 11, -4};
        for (int turn = 0; turn < 2; turn++) {
            p.run(false, 0xFEDCB210, 99);
            for (int k = 0; k < 9; k++) {
                due("number " + k + " of the input", p.out(k), want[k]);
            }
        }
    }

    private static void runWithFuel() {
        CodePruner p = withBlocks(1);
        p.add(0, SET, 0, 6, 0);
        p.add(0, OUT, 0, 0, 0);
        int[] steps = {0, 1, 2, 3, 3};
        int[] answers = {2, 2, 2, 0, 0};
        for (int fuel = 0; fuel < 5; fuel++) {
            due("fuel " + fuel, p.run(false, 0, fuel), answers[fuel]);
            due("fuel " + fuel + ": ran(0)", p.ran(0), steps[fuel]);
            due("fuel " + fuel + ": ran(1)", p.ran(1), fuel >= 2 ? 1 : 0);
            due("fuel " + fuel + ": ran(2)", p.ran(2), fuel >= 3 ? 6 : 0);
        }
        due("fuel below 0", p.run(false, 0, Integer.MIN_VALUE), 2);
        due("fuel below 0: ran(0)", p.ran(0), 0);
        p.end(0, JUMP, 0, 0, 0);
        for (int fuel : new int[] {1999, 2000, 2001, Integer.MAX_VALUE}) {
            due("fuel " + fuel, p.run(false, 0, fuel), 2);
            due("fuel " + fuel + ": ran(0)", p.ran(0), Math.min(fuel, 2000));
        }
        CodePruner q = withBlocks(1);
        q.add(0, OVER, 0, 1, 2);
        due("a trap without fuel", q.run(false, 0, 0), 2);
        due("a trap with fuel", q.run(false, 0, 1), 1);
        due("a trap counts", q.ran(0), 1);
    }

    private static void runOfPrunedProgram() {
        CodePruner p = withBlocks(3);
        p.add(0, IN, 1, 0, 0);
        p.add(0, SET, 2, 5, 0);
        p.add(1, SET, 3, 5, 0);
        p.add(2, OUT, 1, 0, 0);
        p.end(0, BRANCH, 1, 1, 2);
        p.end(1, JUMP, 0, 2, 0);
        p.prune();
        due("as it was", p.run(false, 9, 99), 0);
        due("as it was: ran(0)", p.ran(0), 7);
        due("pruned", p.run(true, 9, 99), 0);
        due("pruned: ran(0)", p.ran(0), 4);
        due("pruned: out(0)", p.out(0), 5);
        due("pruned, too little fuel", p.run(true, 9, 3), 2);
        due("as it was, still", p.run(false, 9, 7), 0);
    }

    private static void runThrows() {
        CodePruner p = new CodePruner();
        dueThrow("run without blocks", STATE, () -> p.run(false, 0, 9));
        dueThrow("pruned run without blocks", STATE, () -> p.run(true, 0, 9));
        p.block();
        p.add(0, OUT, 0, 0, 0);
        p.run(false, 0, 9);
        dueThrow("pruned run without a pruned program", STATE, () -> p.run(true, 0, 9));
        due("a run that throws is none", p.ran(0), 2);
        p.block();
        p.end(1, BRANCH, 0, 0, 5);
        dueThrow("a block is not there", UNSUPPORTED, () -> p.run(false, 0, 9));
        dueThrow("a block is not there, pruned", STATE, () -> p.run(true, 0, 9));
        p.end(1, BRANCH, 0, 5, 0);
        dueThrow("a block is not there", UNSUPPORTED, () -> p.run(false, 0, 9));
        p.end(1, JUMP, 0, 5, 0);
        dueThrow("a block is not there", UNSUPPORTED, () -> p.run(false, 0, 0));
        p.end(1, JUMP, 0, 1, 0);
        due("not sound, but runs", p.run(false, 0, 9), 0);
    }

    private static void ran() {
        CodePruner p = withBlocks(1);
        p.add(0, SET, 1, 5, 0);
        p.add(0, OUT, 1, 0, 0);
        p.add(0, SET, 2, 5, 0);
        p.end(0, RETURN, 1, 0, 0);
        for (int what = 0; what < 3; what++) {
            due("before a run: ran(" + what + ")", p.ran(what), 0);
        }
        due("before a run: ran(3)", p.ran(3), NONE);
        p.prune();
        p.run(false, 0, 99);
        due("ran(0)", p.ran(0), 4);
        due("ran(1)", p.ran(1), 1);
        due("ran(2)", p.ran(2), 5);
        due("ran(-1)", p.ran(-1), NONE);
        due("ran(3)", p.ran(3), NONE);
        p.run(true, 0, 99);
        due("pruned: ran(0)", p.ran(0), 3);
        due("pruned: ran(2)", p.ran(2), 5);
        p.run(true, 0, 1);
        due("the latest run counts: ran(0)", p.ran(0), 1);
        due("the latest run counts: ran(1)", p.ran(1), 0);
        due("the latest run counts: ran(2)", p.ran(2), 0);
    }

    private static void out() {
        CodePruner p = withBlocks(2);
        p.add(0, SET, 2, 1, 0);
        p.end(0, JUMP, 0, 1, 0);
        p.add(1, OUT, 1, 0, 0);
        p.add(1, ADD, 1, 1, 2);
        p.end(1, JUMP, 0, 1, 0);
        dueThrow("out before a run", ELEMENT, () -> p.out(0));
        p.run(false, 0, 2 + 3 * 60);
        due("sixty were put out", p.ran(1), 60);
        due("out(0)", p.out(0), 0);
        due("out(49)", p.out(49), 49);
        dueThrow("out(50)", ELEMENT, () -> p.out(50));
        dueThrow("out(59)", ELEMENT, () -> p.out(59));
        dueThrow("out(-1)", ELEMENT, () -> p.out(-1));
        p.run(false, 0, 2 + 3 * 2);
        due("out(1)", p.out(1), 1);
        dueThrow("out(2)", ELEMENT, () -> p.out(2));
    }
}
