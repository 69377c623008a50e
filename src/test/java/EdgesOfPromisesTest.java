import java.util.function.Function;
import java.util.function.Supplier;

/** The boundary cases that the document names in its promises: a part for each sentence. */
public final class EdgesOfPromisesTest extends Checks {
    private static final int INPUT = 0x76543210;
    private static final int[] NO_BLOCKS_OF_FOUR = {-1, 4, 11, 12, LEAST, MOST};
    private static final int[] NO_REGISTERS = {-1, 8, LEAST, MOST};
    private static final int[] NEVER_BLOCKS = {-1, 12, LEAST, MOST};

    public static void main(String[] args) {
        newObject();
        blockAnswersItsNumber();
        blockWhenThereAreTwelve();
        blockForgets();
        addForgets();
        endForgets();
        clearForgets();
        othersDoNotForget();
        addAtTheEndOfTheBlock();
        addToNoBlock();
        addOfNoOp();
        addOfNoRegister();
        addOfTheLastRegisters();
        addWhenThereAre60();
        addThrowsInOrder();
        endOfNoBlock();
        endOfNoKind();
        endOfNoRegister();
        endToNoBlock();
        endAtTheEdges();
        endInsteadOfAnother();
        endOfAFullProgram();
        clearOfNothing();
        clearOfAFullProgram();
        nothingComesBack();
        pruneAnswersHowManyWent();
        pruneAgain();
        pruneWithoutBlocks();
        pruneWhenNotSound();
        countOfNothing();
        countOfAFullProgram();
        countOfBranches();
        countOfAnotherWhat();
        nextAtTheEdges();
        dependsAtTheEdges();
        neededAtTheEdges();
        endsAtTheEdges();
        endsOfEachKind();
        withoutAPrunedProgram();
        runWithoutBlocks();
        runWithoutABlock();
        runWithoutAPrunedProgram();
        runThatIsNotSound();
        runWithFuelBelow0();
        runWithFuelAbove2000();
        runOf2000Steps();
        trapAtStep2000();
        ranBefore();
        ranOfTheLatest();
        ranOfTheValue();
        ranOfAnotherWhat();
        outAtTheEdges();
        outOfTheLatest();
        finish();
    }

    /** Of its branches one goes (block 0) and one stays (block 1); 3 of its 7 instructions go. */
    private static CodePruner four() {
        return program("SET 1 5, SET 2 6, BRANCH 1 1 1", "IN 3, SET 4 7, BRANCH 3 2 3", "OUT 1, JUMP 3",
            "OUT 3, SET 5 8, RETURN 3");
    }

    private static CodePruner pruned() {
        CodePruner p = four();
        due("the four blocks: prune", p.prune(), 3);
        return p;
    }

    private static CodePruner prunedAndRun() {
        CodePruner p = pruned();
        due("the four blocks: run", p.run(true, 5, 2000), RETURNED);
        return p;
    }

    private static CodePruner runAlone() {
        CodePruner p = four();
        due("the four blocks: run", p.run(false, 5, 2000), RETURNED);
        return p;
    }

    /**
     * Twelve blocks with five instructions each, of which the last one goes; the branches of odd
     * blocks decide about an IN, those of even blocks about nothing. It is pruned, and was run.
     */
    private static CodePruner full() {
        CodePruner p = withBlocks(12);
        int[] ops = {IN, SET, ADD, OUT, SET};
        int[] registers = {0, 1, 2, 2, 7};
        for (int k = 0; k < 60; k++) {
            p.add(k % 12, ops[k / 12], registers[k / 12], 2, 1);
        }
        for (int x = 0; x < 11; x++) {
            p.end(x, BRANCH, 0, x + 1, x + 1 + x % 2);
        }
        due("full: prune", p.prune(), 12);
        due("full: run", p.run(true, INPUT, 2000), RETURNED);
        return p;
    }

    /** Not sound, but run. */
    private static CodePruner unsound() {
        CodePruner p = program("OUT 1, BRANCH 1 1 2", "JUMP 1", "RETURN 1");
        due("the unsound one: run", p.run(false, 0, 2000), RETURNED);
        return p;
    }

    private static CodePruner missingBlock() {
        return program("OUT 1, BRANCH 1 1 2", "JUMP 2");
    }

    /** Promise 1: "No blocks." */
    private static void newObject() {
        CodePruner p = new CodePruner();
        due("NONE", CodePruner.NONE, -1);
        due("new: count(0)", p.count(0), 0);
        due("new: count(1)", p.count(1), 0);
        dueForgotten("new", p, q -> { });
        dueThrow("new: add", ELEMENT, () -> p.add(0, SET, 0, 0, 0));
        dueThrow("new: end", ELEMENT, () -> endOf(p, 0, RETURN, 0, 0, 0));
        dueThrow("new: prune", STATE, p::prune);
        dueThrow("new: run", STATE, () -> p.run(false, 0, 0));
        due("new: block", p.block(), 0);
        CodePruner one = prunedAndRun();
        CodePruner other = new CodePruner();
        due("a new one beside another: count(0)", other.count(0), 0);
        due("a new one beside another: ran(0)", other.ran(0), 0);
        other.block();
        due("another beside a new one: count(0)", one.count(0), 4);
        due("another beside a new one: out(0)", one.out(0), 5);
    }

    /** Promise 2: "A block more. Answers its number." */
    private static void blockAnswersItsNumber() {
        CodePruner p = new CodePruner();
        for (int x = 0; x < 12; x++) {
            due("count(0) before", p.count(0), x);
            due("block()", p.block(), x);
        }
        due("twelve", p.count(0), 12);
        due("no instructions", p.count(1), 0);
    }

    /** "IllegalStateException, changing nothing, when there are twelve." */
    private static void blockWhenThereAreTwelve() {
        dueRefused("a 13th block", STATE, EdgesOfPromisesTest::full, CodePruner::block);
        dueRefused("a 13th empty block", STATE, () -> withBlocks(12), CodePruner::block);
        CodePruner eleven = withBlocks(11);
        due("a 12th block", eleven.block(), 11);
        dueThrow("a 13th block", STATE, eleven::block);
        dueThrow("a 13th block, again", STATE, eleven::block);
        due("twelve", eleven.count(0), 12);
        eleven.clear();
        due("after clear", eleven.block(), 0);
    }

    /** "A pruned program and what a run left are gone then". */
    private static void blockForgets() {
        dueForgotten("a 5th block", prunedAndRun(), p -> due("a 5th block", p.block(), 4));
        CodePruner p = withBlocks(11);
        p.add(0, OUT, 0, 0, 0);
        p.prune();
        p.run(true, 0, 9);
        dueForgotten("a 12th block", p, q -> due("a 12th block", q.block(), 11));
        due("the program itself is not gone", p.count(1), 1);
    }

    /** "(so they are with the three calls below)": the first of them. */
    private static void addForgets() {
        for (int i = SET; i <= OUT; i++) {
            int op = i;
            dueForgotten("add of op " + op, prunedAndRun(), p -> due("add", p.add(3, op, 0, 0, 0), 7));
        }
    }

    /** The second: even if the end is the one that was there. */
    private static void endForgets() {
        dueForgotten("the same return", prunedAndRun(), p -> p.end(3, RETURN, 3, 0, 0));
        dueForgotten("the same jump", prunedAndRun(), p -> p.end(2, JUMP, 0, 3, 0));
        dueForgotten("the same branch", prunedAndRun(), p -> p.end(1, BRANCH, 3, 2, 3));
        dueForgotten("another end", prunedAndRun(), p -> p.end(0, RETURN, 0, 0, 0));
    }

    /** The third. */
    private static void clearForgets() {
        dueForgotten("clear", prunedAndRun(), CodePruner::clear);
        dueForgotten("clear of a full one", full(), CodePruner::clear);
        CodePruner p = runAlone();
        dueForgotten("clear of one that is not pruned", p, CodePruner::clear);
        due("clear: count(0)", p.count(0), 0);
    }

    /** What prune, run and the questions leave: a pruned program and the latest run. */
    private static void othersDoNotForget() {
        CodePruner p = runAlone();
        due("a run before", p.ran(0), 11);
        p.prune();
        dueLeft("prune leaves the run", p, RETURNED, RETURNED, 11, 1, 5, 1);
        p.run(true, 5, 99);
        due("run leaves the pruned program", p.count(2), 1);
        due("the program can be run as it was", p.run(false, 5, 99), RETURNED);
        due("as it was", p.ran(0), 11);
        due("and as it is then", p.run(true, 5, 99), RETURNED);
        due("as it is then", p.ran(0), 8);
    }

    /** Promise 3: "An instruction more at the end of block x. Answers its number." */
    private static void addAtTheEndOfTheBlock() {
        CodePruner p = withBlocks(12);
        for (int k = 0; k < 24; k++) {
            due("SET in block " + k % 12, p.add(11 - k % 12, SET, k / 12, k, 0), k);
        }
        for (int x = 0; x < 12; x++) {
            due("OUT in block " + x, p.add(x, OUT, 1, 0, 0), 24 + x);
            due("the last in block " + x, endOf(p, x, x < 11 ? JUMP : RETURN, 0, Math.min(11, x + 1), 0), DONE);
        }
        dueLeft("each block in its order", p, p.run(false, 0, 99), RETURNED, 48, 0,
            23, 22, 21, 20, 19, 18, 17, 16, 15, 14, 13, 12);
    }

    /** "Throws, changing nothing: NoSuchElementException when there is no such block". */
    private static void addToNoBlock() {
        for (int x : NO_BLOCKS_OF_FOUR) {
            dueRefused("add to block " + x, ELEMENT, EdgesOfPromisesTest::prunedAndRun, p -> p.add(x, OUT, 0, 0, 0));
        }
        for (int x : new int[] {-1, 0, 1, 11}) {
            dueRefused("add to block " + x + " of none", ELEMENT, CodePruner::new, p -> p.add(x, OUT, 0, 0, 0));
        }
        for (int x : NEVER_BLOCKS) {
            dueRefused("add to block " + x + " of 12", ELEMENT, EdgesOfPromisesTest::full, p -> p.add(x, OUT, 0, 0, 0));
        }
        CodePruner p = four();
        due("add to the first block", p.add(0, OUT, 0, 0, 0), 7);
        due("add to the last block", p.add(3, OUT, 0, 0, 0), 8);
    }

    /** "IllegalArgumentException when op is not 0 .. 7". */
    private static void addOfNoOp() {
        for (int op : NO_REGISTERS) {
            dueRefused("op " + op, ARGUMENT, EdgesOfPromisesTest::prunedAndRun, p -> p.add(3, op, 0, 0, 0));
            dueRefused("op " + op + " for a full one", ARGUMENT, EdgesOfPromisesTest::full, p -> p.add(3, op, 0, 0, 0));
        }
        CodePruner p = four();
        due("op 0", p.add(3, 0, 0, 0, 0), 7);
        due("op 7", p.add(3, 7, 0, 0, 0), 8);
    }

    /** "or a register that it has is not 0 .. 7"; what it does not have may be any int. */
    private static void addOfNoRegister() {
        int[] had = {1, 2, 3, 3, 3, 3, 1, 1};
        for (int i = SET; i <= OUT; i++) {
            for (int r : NO_REGISTERS) {
                int op = i;
                Supplier<CodePruner> maker = EdgesOfPromisesTest::prunedAndRun;
                dueRegister(op, "a", r, maker, p -> p.add(3, op, r, 0, 0), true);
                dueRegister(op, "b", r, maker, p -> p.add(3, op, 0, r, 0), had[op] >= 2);
                dueRegister(op, "c", r, maker, p -> p.add(3, op, 0, 0, r), had[op] >= 3);
            }
        }
    }

    private static void dueRegister(int op, String place, int r, Supplier<CodePruner> maker,
            Function<CodePruner, Object> call, boolean isHad) {
        String what = "op " + op + " with " + place + " " + r;
        if (isHad) {
            dueRefused(what, ARGUMENT, maker, call);
        } else {
            due(what, answer(() -> call.apply(maker.get())), 7);
        }
    }

    private static void addOfTheLastRegisters() {
        CodePruner p = withBlocks(1);
        for (int op = SET; op <= OUT; op++) {
            due("op " + op + " with 7, 7, 7", p.add(0, op, 7, 7, 7), 2 * op);
            due("op " + op + " with 0, 0, 0", p.add(0, op, 0, 0, 0), 2 * op + 1);
        }
        due("SET of the least", p.add(0, SET, 7, LEAST, LEAST), 16);
        due("SET of the greatest", p.add(0, SET, 7, MOST, MOST), 17);
    }

    /** "IllegalStateException when there are 60", of whichever op. */
    private static void addWhenThereAre60() {
        for (int i = SET; i <= OUT; i++) {
            int op = i;
            dueRefused("a 61st of op " + op, STATE, EdgesOfPromisesTest::full, p -> p.add(op, op, 7, 7, 7));
        }
        CodePruner p = withBlocks(1);
        for (int k = 0; k < 60; k++) {
            due("instruction " + k, p.add(0, SET, 0, k, 0), k);
        }
        dueThrow("a 61st", STATE, () -> p.add(0, SET, 0, 0, 0));
        due("a block more does not help", p.block(), 1);
        dueThrow("a 61st into it", STATE, () -> p.add(1, SET, 0, 0, 0));
        due("count(1)", p.count(1), 60);
        due("59 of them go", p.prune(), 59);
        dueThrow("pruning does not help", STATE, () -> p.add(0, SET, 0, 0, 0));
        due("that was refused", p.run(true, 0, 9), RETURNED);
        due("the last one is returned", p.ran(2), 59);
    }

    /** More than one thing is wrong: what stands first is thrown. */
    private static void addThrowsInOrder() {
        dueThrow("no block, no op", ELEMENT, () -> four().add(4, 8, 0, 0, 0));
        dueThrow("no block, no register", ELEMENT, () -> four().add(-1, OUT, 8, 0, 0));
        dueThrow("no block, 60", ELEMENT, () -> full().add(12, OUT, 0, 0, 0));
        dueThrow("no op, 60", ARGUMENT, () -> full().add(0, -1, 0, 0, 0));
        dueThrow("no register, 60", ARGUMENT, () -> full().add(0, ADD, 0, 0, -1));
    }

    /** Promise 4: "Throws, changing nothing: NoSuchElementException likewise". */
    private static void endOfNoBlock() {
        for (int x : NO_BLOCKS_OF_FOUR) {
            for (int i = RETURN; i <= BRANCH; i++) {
                int kind = i;
                dueRefused("end " + kind + " of block " + x, ELEMENT, EdgesOfPromisesTest::prunedAndRun,
                    p -> endOf(p, x, kind, 0, 0, 0));
            }
        }
        dueRefused("end of block 0 of none", ELEMENT, CodePruner::new, p -> endOf(p, 0, RETURN, 0, 0, 0));
        dueRefused("end of block 12 of 12", ELEMENT, EdgesOfPromisesTest::full, p -> endOf(p, 12, RETURN, 0, 0, 0));
        dueThrow("no block, no kind", ELEMENT, () -> endOf(four(), 4, 3, 0, 0, 0));
        dueThrow("no block, no register", ELEMENT, () -> endOf(four(), -1, RETURN, 8, 0, 0));
        due("end of the first block", endOf(four(), 0, RETURN, 0, 0, 0), DONE);
        due("end of the last block", endOf(four(), 3, RETURN, 0, 0, 0), DONE);
    }

    /** "IllegalArgumentException when kind is not as said". */
    private static void endOfNoKind() {
        for (int kind : new int[] {-1, 3, LEAST, MOST}) {
            dueRefused("kind " + kind, ARGUMENT, EdgesOfPromisesTest::prunedAndRun, p -> endOf(p, 3, kind, 0, 0, 0));
        }
    }

    /** "a (but for 1) no register". */
    private static void endOfNoRegister() {
        for (int r : NO_REGISTERS) {
            dueRefused("return " + r, ARGUMENT, EdgesOfPromisesTest::prunedAndRun, p -> endOf(p, 3, RETURN, r, 0, 0));
            dueRefused("branch " + r, ARGUMENT, EdgesOfPromisesTest::prunedAndRun, p -> endOf(p, 2, BRANCH, r, 3, 3));
            CodePruner p = four();
            due("jump with a " + r, endOf(p, 2, JUMP, r, 3, 0), DONE);
            dueNeeded("jump with a " + r, p, "1010110");
            due("jump with a " + r + ": run", p.run(true, 5, 99), RETURNED);
        }
    }

    /** "or b (for 1 and 2) or c (for 2) not 0 .. 11". */
    private static void endToNoBlock() {
        for (int x : NEVER_BLOCKS) {
            Supplier<CodePruner> maker = EdgesOfPromisesTest::prunedAndRun;
            dueRefused("jump to " + x, ARGUMENT, maker, p -> endOf(p, 2, JUMP, 0, x, 3));
            dueRefused("branch to b " + x, ARGUMENT, maker, p -> endOf(p, 2, BRANCH, 0, x, 3));
            dueRefused("branch to c " + x, ARGUMENT, maker, p -> endOf(p, 2, BRANCH, 0, 3, x));
            dueRefused("jump to " + x + " of 12", ARGUMENT, EdgesOfPromisesTest::full, p -> endOf(p, 2, JUMP, 0, x, 3));
            CodePruner p = four();
            due("jump with c " + x, endOf(p, 2, JUMP, 0, 3, x), DONE);
            due("return with b and c " + x, endOf(p, 3, RETURN, 3, x, x), DONE);
            due("they lead nowhere: prune", p.prune(), 3);
            dueEnds("they lead nowhere", p, "JUMP 1", "BRANCH 2 3", "JUMP 3", "RETURN");
        }
    }

    /** The last that are taken on each side: registers 0 and 7, blocks 0 and 11. */
    private static void endAtTheEdges() {
        for (int r = 0; r < 8; r += 7) {
            for (int x = 0; x < 12; x += 11) {
                String what = " " + r + " " + x + " " + (11 - x);
                CodePruner p = withBlocks(12);
                due("return" + what, endOf(p, 0, RETURN, r, x, 11 - x), DONE);
                due("branch" + what, endOf(p, 5, BRANCH, r, x, 11 - x), DONE);
                due("jump" + what, endOf(p, 6, JUMP, r, x, 11 - x), DONE);
                p.prune();
                due("branch" + what + ": b", p.ends(5, 1), x);
                due("branch" + what + ": c", p.ends(5, 2), 11 - x);
                due("jump" + what + ": b", p.ends(6, 1), x);
            }
        }
        CodePruner one = withBlocks(1);
        due("a jump to a block that is not there yet", endOf(one, 0, JUMP, 0, 11, 0), DONE);
        due("a branch to blocks that are not there yet", endOf(one, 0, BRANCH, 0, 1, 11), DONE);
    }

    /** "The end of block x": a block has one, the latest. */
    private static void endInsteadOfAnother() {
        CodePruner p = program("SET 1 5, SET 2 6, BRANCH 1 1 2", "SET 0 7", "SET 0 8");
        dueLeft("a branch", p, p.run(false, 0, 9), RETURNED, 5, 7);
        p.end(0, JUMP, 0, 2, 0);
        dueLeft("a jump instead", p, p.run(false, 0, 9), RETURNED, 5, 8);
        dueNeeded("a jump instead", p, "0011");
        p.end(0, RETURN, 2, 0, 0);
        dueLeft("a return instead", p, p.run(false, 0, 9), RETURNED, 3, 6);
        dueNeeded("a return instead", p, "0111");
        p.end(0, RETURN, 1, 0, 0);
        dueLeft("another return instead", p, p.run(false, 0, 9), RETURNED, 3, 5);
        dueNeeded("another return instead", p, "1011");
        dueEnds("another return instead", p, "RETURN", "RETURN", "RETURN");
        p.end(0, BRANCH, 3, 1, 2);
        dueLeft("a branch again", p, p.run(false, 0, 9), RETURNED, 5, 8);
    }

    private static void endOfAFullProgram() {
        CodePruner p = full();
        due("an end of a full program", endOf(p, 0, RETURN, 0, 0, 0), DONE);
        due("it is run", p.run(false, 0, 99), RETURNED);
        due("its steps", p.ran(0), 6);
    }

    /** Promise 5: "All is gone." Nothing is no exception. */
    private static void clearOfNothing() {
        CodePruner p = new CodePruner();
        p.clear();
        p.clear();
        dueAlike("cleared, like a new one", p, new CodePruner());
    }

    private static void clearOfAFullProgram() {
        CodePruner p = full();
        p.clear();
        dueAlike("cleared, like a new one", p, new CodePruner());
        p.clear();
        for (int x = 0; x < 12; x++) {
            due("cleared: block", p.block(), x);
        }
        due("cleared: no instruction and no end comes back", p.prune(), 0);
        dueEnds("cleared", p, texts(12, x -> "RETURN"));
        dueLeft("cleared", p, p.run(false, INPUT, 99), RETURNED, 1, 0);
        for (int k = 0; k < 60; k++) {
            due("cleared: add", p.add(11, SET, 1, k, 0), k);
        }
        dueThrow("cleared: a 61st", STATE, () -> p.add(0, SET, 1, 0, 0));
        dueThrow("cleared: a 13th block", STATE, p::block);
    }

    /** What was pruned before a change is gone: it shows in nothing that is pruned afterwards. */
    private static void nothingComesBack() {
        String[][] programs = {
            {""},
            {"SET 0 1, SET 1 2, JUMP 1", "SET 2 3, RETURN 2"},
            {"SET 1 1, SET 0 2, BRANCH 1 1 2", "SET 3 1, JUMP 2", "SET 4 1, JUMP 3", "RETURN 3"},
            {"SET 2 1, BRANCH 2 1 1", "BRANCH 3 2 2", "BRANCH 3 3 3", "SET 4 1, OUT 4, RETURN 5"},
            {"IN 1, BRANCH 1 1 2", "OUT 1, BRANCH 1 0 3", "OUT 2, SET 2 1, JUMP 0", "JUMP 4", ""},
            {"OUT 1, OUT 2, OUT 3, OUT 4, SET 1 1, SET 2 1, SET 3 1, SET 4 1"},
        };
        for (String[] earlier : programs) {
            for (String[] later : programs) {
                CodePruner p = program(earlier);
                p.add(0, SET, 0, 5, 0);
                p.prune();
                p.clear();
                dueAlike("pruned after another", prunedIn(p, later), prunedIn(new CodePruner(), later));
            }
        }
        CodePruner p = prunedAndRun();
        p.end(1, RETURN, 4, 0, 0);
        dueNeeded("a return instead of a branch", p, "0011110");
        p.end(1, BRANCH, 3, 3, 3);
        dueNeeded("a branch that decides nothing", p, "0010110");
        dueEnds("a branch that decides nothing", p, "JUMP 1", "JUMP 3", "JUMP 3", "RETURN");
    }

    private static CodePruner prunedIn(CodePruner p, String[] blocks) {
        programIn(p, blocks).prune();
        return p;
    }

    /** Promise 6: "Prunes; answers how many instructions went": none, some, all 60. */
    private static void pruneAnswersHowManyWent() {
        due("of none", program("").prune(), 0);
        due("of one that is needed", program("OUT 1").prune(), 0);
        due("of one that is not", program("SET 1 5").prune(), 1);
        due("three of seven", four().prune(), 3);
        CodePruner all = withBlocks(12);
        CodePruner none = withBlocks(12);
        for (int k = 0; k < 60; k++) {
            all.add(k % 12, ADD, k % 7 + 1, 1, 2);
            none.add(k % 12, OVER, 1, 1, 1);
        }
        due("all 60", all.prune(), 60);
        due("all 60: the first", all.needed(0), false);
        due("all 60: the last", all.needed(59), false);
        dueLeft("all 60", all, all.run(true, 0, 9), RETURNED, 1, 0);
        due("none of 60", none.prune(), 0);
        due("none of 60: the first", none.needed(0), true);
        due("none of 60: the last", none.needed(59), true);
    }

    /** What went is still there in the program as it was, so it goes again. */
    private static void pruneAgain() {
        CodePruner p = pruned();
        due("again", p.prune(), 3);
        due("again: count(2)", p.count(2), 1);
        p.add(3, OUT, 5, 0, 0);
        due("one more is needed", p.prune(), 2);
        p.end(3, RETURN, 6, 0, 0);
        due("another return", p.prune(), 2);
        p.end(0, JUMP, 0, 1, 0);
        due("no branch that goes", p.prune(), 2);
        due("no branch that goes: count(2)", p.count(2), 0);
    }

    /** "IllegalStateException when there are no blocks". */
    private static void pruneWithoutBlocks() {
        dueRefused("prune of a new one", STATE, CodePruner::new, CodePruner::prune);
        dueRefused("prune of a cleared one", STATE, () -> {
            CodePruner p = prunedAndRun();
            p.clear();
            return p;
        }, CodePruner::prune);
    }

    /** "UnsupportedOperationException when the program is not SOUND". */
    private static void pruneWhenNotSound() {
        dueRefused("prune of an unsound one", UNSUPPORTED, EdgesOfPromisesTest::unsound, CodePruner::prune);
        dueRefused("prune when a block is missing", UNSUPPORTED, EdgesOfPromisesTest::missingBlock, CodePruner::prune);
        CodePruner p = unsound();
        dueThrow("an unsound one", UNSUPPORTED, p::prune);
        due("the run is left", p.ran(0), 3);
        dueThrow("no pruned program: next", ELEMENT, () -> p.next(0));
        dueThrow("no pruned program: run", STATE, () -> p.run(true, 0, 9));
        due("no pruned program: count(2)", p.count(2), NONE);
        p.end(1, JUMP, 0, 2, 0);
        due("a sound one", p.prune(), 0);
        p.end(1, JUMP, 0, 1, 0);
        dueThrow("an unsound one again", UNSUPPORTED, p::prune);
        due("an unsound one again: count(2)", p.count(2), NONE);
    }

    private static void dueCounts(String what, CodePruner p, int blocks, int instructions, int jumps) {
        due(what + ": count(0)", p.count(0), blocks);
        due(what + ": count(1)", p.count(1), instructions);
        due(what + ": count(2)", p.count(2), jumps);
    }

    /** Promise 7: "(2; NONE without a pruned program)", which is not 0. */
    private static void countOfNothing() {
        dueCounts("new", new CodePruner(), 0, 0, NONE);
        dueCounts("a block", withBlocks(1), 1, 0, NONE);
        CodePruner p = withBlocks(1);
        p.prune();
        dueCounts("a pruned block", p, 1, 0, 0);
        p.run(true, 0, 9);
        dueCounts("a pruned block, run", p, 1, 0, 0);
        p.clear();
        dueCounts("cleared", p, 0, 0, NONE);
    }

    private static void countOfAFullProgram() {
        CodePruner p = full();
        dueCounts("full", p, 12, 60, 6);
        p.end(0, RETURN, 0, 0, 0);
        dueCounts("changed", p, 12, 60, NONE);
        p.clear();
        dueCounts("cleared", p, 0, 0, NONE);
    }

    private static void countOfBranches() {
        CodePruner p = program("SET 1 1, BRANCH 1 1 2", "BRANCH 1 2 2", "BRANCH 1 3 4", "RETURN 1", "RETURN 2");
        dueCounts("before", p, 5, 1, NONE);
        p.prune();
        dueCounts("two of three became jumps", p, 5, 1, 2);
        CodePruner all = pruned();
        dueCounts("what went is still there", all, 4, 7, 1);
    }

    /** "NONE for another what". */
    private static void countOfAnotherWhat() {
        for (int what : new int[] {-1, 3, LEAST, MOST}) {
            due("new: count(" + what + ")", new CodePruner().count(what), NONE);
            due("pruned: count(" + what + ")", prunedAndRun().count(what), NONE);
            due("full: count(" + what + ")", full().count(what), NONE);
        }
    }

    /** Promise 8: "NONE when there is none. NoSuchElementException when there is no such block". */
    private static void nextAtTheEdges() {
        CodePruner p = pruned();
        dueNext("four", p, 1, 3, 3, NONE);
        for (int x : NO_BLOCKS_OF_FOUR) {
            dueRefused("next(" + x + ")", ELEMENT, EdgesOfPromisesTest::prunedAndRun, q -> q.next(x));
        }
        CodePruner full = full();
        due("full: next(0)", full.next(0), 1);
        due("full: next(1)", full.next(1), 3);
        due("full: next(10)", full.next(10), 11);
        due("full: next(11)", full.next(11), NONE);
        for (int x : NEVER_BLOCKS) {
            dueThrow("full: next(" + x + ")", ELEMENT, () -> full.next(x));
        }
    }

    /** Promise 9: "Throws likewise": for either block. */
    private static void dependsAtTheEdges() {
        CodePruner p = pruned();
        dueDepends("four", p, "2 on 1");
        for (int x : NO_BLOCKS_OF_FOUR) {
            Supplier<CodePruner> maker = EdgesOfPromisesTest::prunedAndRun;
            dueRefused("depends(" + x + ", 1)", ELEMENT, maker, q -> q.depends(x, 1));
            dueRefused("depends(2, " + x + ")", ELEMENT, maker, q -> q.depends(2, x));
            dueRefused("depends(" + x + ", " + x + ")", ELEMENT, maker, q -> q.depends(x, x));
        }
        CodePruner far = program(texts(12, x -> x == 11 ? "BRANCH 0 0 1" : x == 1 ? "" : x == 0 ? "JUMP 11" : "JUMP 1"));
        far.prune();
        due("depends(11, 11)", far.depends(11, 11), true);
        due("depends(0, 11)", far.depends(0, 11), true);
        due("depends(11, 0)", far.depends(11, 0), false);
        due("depends(0, 0)", far.depends(0, 0), false);
    }

    /** Promise 10: "NoSuchElementException when there is none". */
    private static void neededAtTheEdges() {
        CodePruner p = pruned();
        due("needed(0)", p.needed(0), true);
        due("needed(6)", p.needed(6), false);
        for (int k : new int[] {-1, 7, 59, 60, 64, 70, LEAST, MOST}) {
            dueRefused("needed(" + k + ")", ELEMENT, EdgesOfPromisesTest::prunedAndRun, q -> q.needed(k));
        }
        CodePruner none = withBlocks(1);
        none.prune();
        dueThrow("no instructions: needed(0)", ELEMENT, () -> none.needed(0));
        CodePruner full = full();
        due("full: needed(0)", full.needed(0), true);
        due("full: needed(47)", full.needed(47), true);
        due("full: needed(48)", full.needed(48), false);
        due("full: needed(59)", full.needed(59), false);
        for (int k : new int[] {-1, 60, 64, LEAST, MOST}) {
            dueThrow("full: needed(" + k + ")", ELEMENT, () -> full.needed(k));
        }
    }

    /** Promise 11: "NoSuchElementException likewise; also for another what." */
    private static void endsAtTheEdges() {
        for (int x : NO_BLOCKS_OF_FOUR) {
            for (int what = 0; what < 3; what++) {
                int w = what;
                dueRefused("ends(" + x + ", " + w + ")", ELEMENT, EdgesOfPromisesTest::prunedAndRun, p -> p.ends(x, w));
            }
        }
        for (int what : new int[] {-1, 3, LEAST, MOST}) {
            for (int block = 0; block < 4; block++) {
                int x = block;
                dueRefused("ends(" + x + ", " + what + ")", ELEMENT, EdgesOfPromisesTest::prunedAndRun,
                    p -> p.ends(x, what));
            }
        }
        CodePruner full = full();
        due("full: ends(0, 0)", full.ends(0, 0), JUMP);
        due("full: ends(1, 0)", full.ends(1, 0), BRANCH);
        due("full: ends(11, 0)", full.ends(11, 0), RETURN);
        dueThrow("full: ends(12, 0)", ELEMENT, () -> full.ends(12, 0));
        dueThrow("full: ends(-1, 0)", ELEMENT, () -> full.ends(-1, 0));
    }

    /** "NONE for a return", "the other one (2; NONE, if there is none)". */
    private static void endsOfEachKind() {
        CodePruner p = program("BRANCH 0 11 10", "JUMP 11", "BRANCH 0 0 0", "RETURN 7", "BRANCH 0 10 11", "", "", "", "",
            "JUMP 0", "", "");
        p.prune();
        dueEnds("each kind", p, "BRANCH 11 10", "JUMP 11", "JUMP 0", "RETURN", "BRANCH 10 11", "RETURN", "RETURN",
            "RETURN", "RETURN", "JUMP 0", "RETURN", "RETURN");
        due("a return: ends(3, 1)", p.ends(3, 1), NONE);
        due("a return: ends(3, 2)", p.ends(3, 2), NONE);
        due("a jump: ends(1, 2)", p.ends(1, 2), NONE);
        due("a branch that became a jump: ends(2, 0)", p.ends(2, 0), JUMP);
        due("a branch that became a jump: ends(2, 2)", p.ends(2, 2), NONE);
    }

    /** "or no pruned program": next, depends, needed and ends without one. */
    private static void withoutAPrunedProgram() {
        for (int made = 0; made < 4; made++) {
            Supplier<CodePruner> maker = made == 0 ? CodePruner::new : made == 1 ? EdgesOfPromisesTest::four
                : made == 2 ? EdgesOfPromisesTest::runAlone : EdgesOfPromisesTest::unsound;
            dueRefused("next(0)", ELEMENT, maker, p -> p.next(0));
            dueRefused("depends(0, 0)", ELEMENT, maker, p -> p.depends(0, 0));
            dueRefused("needed(0)", ELEMENT, maker, p -> p.needed(0));
            dueRefused("ends(0, 0)", ELEMENT, maker, p -> p.ends(0, 0));
            dueRefused("ends(0, 3)", ELEMENT, maker, p -> p.ends(0, 3));
        }
    }

    /** Promise 12: "IllegalStateException when there are no blocks", whatever the fuel. */
    private static void runWithoutBlocks() {
        for (int fuel : new int[] {LEAST, -1, 0, 1, 2000, MOST}) {
            dueRefused("run of nothing", STATE, CodePruner::new, p -> p.run(false, 0, fuel));
            dueRefused("pruned run of nothing", STATE, CodePruner::new, p -> p.run(true, 0, fuel));
        }
        CodePruner p = prunedAndRun();
        p.clear();
        dueThrow("cleared: run", STATE, () -> p.run(false, 0, 9));
        dueThrow("cleared: pruned run", STATE, () -> p.run(true, 0, 9));
    }

    /** "UnsupportedOperationException when a block to which an end leads is not there". */
    private static void runWithoutABlock() {
        dueRefused("a block is missing", UNSUPPORTED, EdgesOfPromisesTest::missingBlock, p -> p.run(false, 0, 99));
        dueRefused("a block is missing, no fuel", UNSUPPORTED, EdgesOfPromisesTest::missingBlock, p -> p.run(false, 0, 0));
        for (String end : new String[] {"JUMP 2", "JUMP 11", "BRANCH 0 2 0", "BRANCH 0 0 2", "BRANCH 0 11 11"}) {
            dueThrow("the run does not come to " + end, UNSUPPORTED, () -> program("", end).run(false, 0, 9));
            dueThrow("the run comes to " + end, UNSUPPORTED, () -> program(end, "").run(false, 0, 9));
        }
        due("the last that is there", program("JUMP 1", "").run(false, 0, 9), RETURNED);
        CodePruner p = program("JUMP 11");
        for (int x = 1; x < 12; x++) {
            dueThrow("block 11 is missing", UNSUPPORTED, () -> p.run(false, 0, 9));
            p.block();
        }
        due("block 11 is there", p.run(false, 0, 9), RETURNED);
    }

    /** "for the pruned one IllegalStateException, too, when there is none". */
    private static void runWithoutAPrunedProgram() {
        dueRefused("not pruned", STATE, EdgesOfPromisesTest::four, p -> p.run(true, 0, 9));
        dueRefused("not pruned, but run", STATE, EdgesOfPromisesTest::runAlone, p -> p.run(true, 0, 9));
        dueRefused("not sound", STATE, EdgesOfPromisesTest::unsound, p -> p.run(true, 0, 9));
        dueRefused("a block is missing", STATE, EdgesOfPromisesTest::missingBlock, p -> p.run(true, 0, 9));
        CodePruner p = prunedAndRun();
        due("pruned", p.run(true, 5, 99), RETURNED);
        p.end(3, RETURN, 3, 0, 0);
        dueThrow("no longer pruned", STATE, () -> p.run(true, 5, 99));
        p.prune();
        due("pruned again", p.run(true, 5, 99), RETURNED);
    }

    private static void runThatIsNotSound() {
        CodePruner p = program("OUT 1, JUMP 1", "JUMP 1");
        dueLeft("not sound", p, p.run(false, 0, 9), NO_FUEL, 9, 0, 0);
        CodePruner q = unsound();
        dueLeft("not sound, but it returns", q, q.run(false, 0, 9), RETURNED, 3, 0, 0);
    }

    /** "for at most fuel steps (below 0 counts as 0 ..". */
    private static void runWithFuelBelow0() {
        CodePruner p = prunedAndRun();
        for (int fuel : new int[] {0, -1, -2000, LEAST}) {
            for (boolean pruned : new boolean[] {false, true}) {
                p.run(pruned, 5, 99);
                dueLeft("fuel " + fuel, p, p.run(pruned, 5, fuel), NO_FUEL, 0, 0);
            }
        }
        dueLeft("fuel 1", p, p.run(true, 5, 1), NO_FUEL, 1, 0);
        CodePruner empty = withBlocks(1);
        dueLeft("a return alone, fuel 0", empty, empty.run(false, 0, 0), NO_FUEL, 0, 0);
        dueLeft("a return alone, fuel 1", empty, empty.run(false, 0, 1), RETURNED, 1, 0);
    }

    /** ".. above 2000 as 2000)". */
    private static void runWithFuelAbove2000() {
        CodePruner p = program("BRANCH 1 1 0", "");
        p.prune();
        for (int fuel : new int[] {1, 1999, 2000, 2001, 2002, 65536, MOST}) {
            dueLeft("fuel " + fuel, p, p.run(false, 0, fuel), NO_FUEL, Math.min(fuel, 2000), 0);
        }
        dueLeft("pruned it needs 2", p, p.run(true, 0, MOST), RETURNED, 2, 0);
    }

    /** Takes 5 steps, 2 for each round and 1 for each OUT; returns 1. */
    private static CodePruner countdown(int rounds, int outs, String last) {
        CodePruner p = program("SET 1 " + rounds + ", SET 2 1, JUMP 1", "TAKE 1 1 2, BRANCH 1 1 2",
            "OUT 2, ".repeat(outs) + last);
        p.prune();
        return p;
    }

    private static void dueBoth(String what, CodePruner p, int fuel, int answer, int steps, int value, int... outs) {
        dueLeft(what, p, p.run(false, 0, fuel), answer, steps, value, outs);
        dueLeft(what + ", pruned", p, p.run(true, 0, fuel), answer, steps, value, outs);
    }

    /** "Answers 0 when it returned .. 2 when there was no more fuel": the last step is enough. */
    private static void runOf2000Steps() {
        String last = "ADD 1 1 2, RETURN 1";
        CodePruner just = countdown(997, 1, last);
        for (int fuel : new int[] {2000, 2001, MOST}) {
            dueBoth("2000 steps, fuel " + fuel, just, fuel, RETURNED, 2000, 1, 1);
        }
        dueBoth("2000 steps, fuel 1999", just, 1999, NO_FUEL, 1999, 0, 1);
        CodePruner more = countdown(998, 0, last);
        for (int fuel : new int[] {2000, 2001, MOST}) {
            dueBoth("2001 steps, fuel " + fuel, more, fuel, NO_FUEL, 2000, 0);
        }
        CodePruner less = countdown(997, 0, last);
        dueBoth("1999 steps, fuel 1999", less, 1999, RETURNED, 1999, 1);
        dueBoth("1999 steps, fuel 2000", less, 2000, RETURNED, 1999, 1);
        dueBoth("1999 steps, fuel 1998", less, 1998, NO_FUEL, 1998, 0);
        CodePruner out = countdown(998, 2, last);
        dueBoth("an OUT at step 2000, none at 2001", out, MOST, NO_FUEL, 2000, 0, 1);
    }

    /** "1 for a trap": at the last step that there is fuel for, and behind it. */
    private static void trapAtStep2000() {
        String last = "OVER 1 2 1, RETURN 1";
        CodePruner just = countdown(998, 0, last);
        dueBoth("a trap at step 2000", just, MOST, TRAPPED, 2000, 0);
        dueBoth("a trap at step 2000, fuel 1999", just, 1999, NO_FUEL, 1999, 0);
        CodePruner more = countdown(998, 1, last);
        dueBoth("a trap at step 2001", more, MOST, NO_FUEL, 2000, 0, 1);
    }

    /** Promise 13: "0 before". */
    private static void ranBefore() {
        for (int what = 0; what < 3; what++) {
            due("new: ran(" + what + ")", new CodePruner().ran(what), 0);
            due("not run: ran(" + what + ")", four().ran(what), 0);
            due("not run, but pruned: ran(" + what + ")", pruned().ran(what), 0);
            due("a run that threw: ran(" + what + ")", ranAfterThrow(what), 0);
        }
    }

    private static int ranAfterThrow(int what) {
        CodePruner p = missingBlock();
        dueThrow("a run that throws", UNSUPPORTED, () -> p.run(false, 0, 9));
        return p.ran(what);
    }

    /** "Of the latest run". */
    private static void ranOfTheLatest() {
        CodePruner p = pruned();
        dueLeft("as it was", p, p.run(false, 5, 99), RETURNED, 11, 1, 5, 1);
        dueLeft("pruned", p, p.run(true, 4, 99), RETURNED, 6, 0, 0);
        dueLeft("cut off", p, p.run(true, 5, 5), NO_FUEL, 5, 0, 5);
        dueLeft("without fuel", p, p.run(false, 5, 0), NO_FUEL, 0, 0);
        dueLeft("as it was, again", p, p.run(false, 5, 99), RETURNED, 11, 1, 5, 1);
    }

    /** "the value that was returned (2; 0 if none was)". */
    private static void ranOfTheValue() {
        CodePruner p = program("IN 1, SET 2 7, SET 0 8, OVER 2 2 1, RETURN 2");
        dueLeft("returned", p, p.run(false, 11, 99), RETURNED, 5, 1);
        dueLeft("a trap after a value", p, p.run(false, 4, 99), TRAPPED, 4, 0);
        dueLeft("returned again", p, p.run(false, 3, 99), RETURNED, 5, -7);
        dueLeft("no fuel after a value", p, p.run(false, 3, 4), NO_FUEL, 4, 0);
        for (int value : new int[] {LEAST, -1, 0, MOST}) {
            CodePruner q = program("SET 7 " + value + ", RETURN 7");
            dueLeft("the value " + value, q, q.run(false, 0, 2), RETURNED, 2, value);
        }
    }

    /** "NONE for another what". */
    private static void ranOfAnotherWhat() {
        for (int what : new int[] {-1, 3, LEAST, MOST}) {
            due("new: ran(" + what + ")", new CodePruner().ran(what), NONE);
            due("not run: ran(" + what + ")", pruned().ran(what), NONE);
            due("run: ran(" + what + ")", prunedAndRun().ran(what), NONE);
        }
    }

    /** Promise 14: "NoSuchElementException when there is none (or it was not kept)". */
    private static void outAtTheEdges() {
        for (int k : new int[] {-1, 0, 49, 50, LEAST, MOST}) {
            dueRefused("new: out(" + k + ")", ELEMENT, CodePruner::new, p -> p.out(k));
            dueRefused("not run: out(" + k + ")", ELEMENT, EdgesOfPromisesTest::pruned, p -> p.out(k));
        }
        CodePruner p = prunedAndRun();
        due("out(0)", p.out(0), 5);
        due("out(1)", p.out(1), 1);
        for (int k : new int[] {-1, 2, 49, 50, LEAST, MOST}) {
            dueRefused("out(" + k + ")", ELEMENT, EdgesOfPromisesTest::prunedAndRun, q -> q.out(k));
        }
        for (int outs = 48; outs <= 52; outs++) {
            outOfMany(outs);
        }
    }

    private static void outOfMany(int outs) {
        CodePruner p = program("IN 1, OUT 1, ".repeat(8) + "JUMP 1", "ADD 2 2 1, OUT 2, JUMP 1");
        p.run(false, INPUT, 17 + 3 * (outs - 8));
        due(outs + " are put out", p.ran(1), outs);
        for (int i = -1; i <= outs; i++) {
            int k = i;
            int value = k < 8 ? k - 4 : 3 * (k - 7);
            due(outs + " are put out: out(" + k + ")", answer(() -> p.out(k)),
                k < 0 || k >= 50 || k >= outs ? ELEMENT : value);
        }
    }

    /** What an earlier, longer run left is not to be seen. */
    private static void outOfTheLatest() {
        CodePruner p = program("SET 1 1, OUT 1, JUMP 1", "ADD 1 1 1, OUT 1, JUMP 1");
        p.run(false, 0, 2000);
        due("a long run: out(49)", p.out(49), 0);
        due("a long run: out(31)", p.out(31), LEAST);
        due("a long run: ran(1)", p.ran(1), 667);
        dueLeft("a short run", p, p.run(false, 0, 5), NO_FUEL, 5, 0, 1, 2);
        dueThrow("a short run: out(49)", ELEMENT, () -> p.out(49));
        dueLeft("none", p, p.run(false, 0, 1), NO_FUEL, 1, 0);
    }
}
