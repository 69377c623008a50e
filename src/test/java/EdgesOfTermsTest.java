/** The boundary cases that the document names above its promises: a part for each sentence. */
public final class EdgesOfTermsTest extends Checks {
    private static final int INPUT = 0x76543210;

    public static void main(String[] args) {
        usedFor512Calls();
        blocks0To11();
        theFirstBlockBegins();
        atMost60AllTogether();
        sixtyInOneBlock();
        numberedAsTheyAreAdded();
        branchToBIfNot0();
        branchOnEachRegister();
        blockWithoutAnEnd();
        registers0To7();
        registersAtFirst0();
        registersAreInts();
        setAnyInt();
        wrapping();
        overToward0();
        overTraps();
        resultInAnOperand();
        fieldsThatAreNotHad();
        soundWithAWayFromEachBlock();
        soundWithAllBlocksThere();
        soundOverTwelveBlocks();
        postDominatesItselfAndTheLast();
        waysThatDoNotReturn();
        nextIsTheNearest();
        noNext();
        dependsOnABranchAlone();
        dependsOnItself();
        dependsNotOnWhatItPostDominates();
        dependsOnOneStepAlone();
        reachesUntilSetAgain();
        reachesRoundALoop();
        reachesThroughTwelveBlocks();
        reachesFromBlocksThatAreNotRun();
        neededInAnyCase();
        neededWithAnInstruction();
        neededWithAnEnd();
        neededBranches();
        neededBranchesOfBranches();
        neededLongChains();
        neededOneByOne();
        jumpsAreNotCounted();
        pruneToTheFirstWithSomethingNeeded();
        pruneAlongElevenBlocks();
        pruneLeavesOtherEnds();
        runBeginsAnew();
        eachInstructionAndEndIsAStep();
        inputBeginsAgainAfterEight();
        inputIsFourBitsLess4();
        inputIsTakenByInAlone();
        trapEndsTheRun();
        first50AreKept();
        finish();
    }

    /** "An object is used for at most 512 calls": the last of them answers like the others. */
    private static void usedFor512Calls() {
        CodePruner p = withBlocks(12);
        for (int k = 0; k < 60; k++) {
            due("add", p.add(k % 12, k % 3 == 0 ? IN : OUT, k % 8, 0, 0), k);
        }
        for (int x = 0; x < 11; x++) {
            p.end(x, JUMP, 0, x + 1, 0);
        }
        due("call 84: prune()", p.prune(), 0);
        for (int call = 85; call < 512; call++) {
            due("call " + call + ": run", p.run(call % 2 == 0, -1, 2000), RETURNED);
        }
        due("call 512: ran(0)", p.ran(0), 72);
    }

    /** "BLOCKS 0 .. 11". */
    private static void blocks0To11() {
        CodePruner p = new CodePruner();
        for (int x = 0; x < 12; x++) {
            dueThrow("add to block " + x + " before it is there", ELEMENT, () -> p.add(p.count(0), SET, 0, 0, 0));
            due("block()", p.block(), x);
            due("count(0)", p.count(0), x + 1);
            due("add to block " + x, p.add(x, OUT, 0, 0, 0), x);
            due("end of block " + x, endOf(p, x, JUMP, 0, Math.min(x + 1, 11), 0), DONE);
        }
        dueThrow("a block 12", STATE, p::block);
        p.end(11, RETURN, 0, 0, 0);
        due("prune", p.prune(), 0);
        due("all twelve are run", p.run(true, 0, 99), RETURNED);
        due("all twelve put out", p.ran(1), 12);
    }

    /** "the first one begins". */
    private static void theFirstBlockBegins() {
        for (int n = 1; n <= 12; n++) {
            CodePruner p = program(texts(n, x -> "SET 1 " + (x + 100) + ", OUT 1, RETURN 1"));
            dueLeft(n + " blocks", p, p.run(false, 0, 9), RETURNED, 3, 100, 100);
            p.prune();
            dueLeft(n + " blocks, pruned", p, p.run(true, 0, 9), RETURNED, 3, 100, 100);
        }
        CodePruner p = program("OUT 0, JUMP 2", "SET 0 9, JUMP 0", "RETURN 0");
        dueLeft("nothing before block 0", p, p.run(false, 0, 9), RETURNED, 3, 0, 0);
    }

    /** "all together at most 60": twelve blocks share them. */
    private static void atMost60AllTogether() {
        CodePruner p = withBlocks(12);
        for (int k = 0; k < 60; k++) {
            due("add", p.add(k % 12, SET, 0, k, 0), k);
        }
        for (int x = 0; x < 12; x++) {
            int block = x;
            dueThrow("61st, to block " + x, STATE, () -> p.add(block, SET, 0, 0, 0));
        }
        due("count(1)", p.count(1), 60);
    }

    private static void sixtyInOneBlock() {
        for (int x = 0; x < 12; x += 11) {
            CodePruner p = withBlocks(x + 1);
            int full = x;
            due("the first", p.add(x, SET, 1, 1, 0), 0);
            for (int k = 1; k < 59; k++) {
                due("one of 60 in block " + x, p.add(x, ADD, 2, 2, 1), k);
            }
            due("the last", p.add(x, OUT, 2, 0, 0), 59);
            dueThrow("61st in block " + x, STATE, () -> p.add(full, OUT, 2, 0, 0));
            p.end(0, x == 0 ? RETURN : JUMP, 2, x, 0);
            p.end(x, RETURN, 2, 0, 0);
            int steps = x == 0 ? 61 : 62;
            dueLeft("60 in block " + x, p, p.run(false, 0, 99), RETURNED, steps, 58, 58);
            due("60 needed: prune", p.prune(), 0);
            due("60 needed: the last one", p.needed(59), true);
            dueLeft("60 in block " + x + ", pruned", p, p.run(true, 0, 99), RETURNED, steps, 58, 58);
        }
    }

    /** "numbered 0, 1, .. as they are added", in whichever block. */
    private static void numberedAsTheyAreAdded() {
        CodePruner p = withBlocks(3);
        due("into block 2", p.add(2, OUT, 1, 0, 0), 0);
        due("into block 0", p.add(0, SET, 1, 5, 0), 1);
        due("into block 1", p.add(1, SET, 2, 6, 0), 2);
        due("into block 2 again", p.add(2, OUT, 3, 0, 0), 3);
        due("into block 0 again", p.add(0, SET, 3, 7, 0), 4);
        p.end(0, JUMP, 0, 2, 0);
        dueNeeded("by number", p, "11011");
        dueLeft("each block in its order", p, p.run(false, 0, 99), RETURNED, 6, 0, 5, 7);
    }

    /** "BRANCH r b c (to b if register r is not 0, else to c)". */
    private static void branchToBIfNot0() {
        for (int value : new int[] {1, -1, 2, 65536, LEAST, MOST, LEAST + 1}) {
            dueWay("a branch on " + value, value, 5);
        }
        dueWay("a branch on 0", 0, 6);
    }

    private static void dueWay(String what, int value, int want) {
        CodePruner p = program("SET 3 " + value + ", BRANCH 3 1 2", "SET 0 5", "SET 0 6");
        dueLeft(what, p, p.run(false, 0, 9), RETURNED, 4, want);
        p.prune();
        dueLeft(what + ", pruned", p, p.run(true, 0, 9), RETURNED, 4, want);
    }

    private static void branchOnEachRegister() {
        for (int r = 0; r < 8; r++) {
            for (int set = 0; set < 8; set++) {
                CodePruner p = program("SET " + set + " 1, BRANCH " + r + " 1 2", "OUT 0", "");
                p.run(false, 0, 9);
                due("a branch on " + r + " when " + set + " is 1", p.ran(1), r == set ? 1 : 0);
            }
        }
    }

    /** "A block without an end returns register 0." */
    private static void blockWithoutAnEnd() {
        CodePruner p = program("SET 0 7, SET 1 8, JUMP 11", "", "", "", "", "", "", "", "", "", "", "");
        dueLeft("block 11", p, p.run(false, 0, 9), RETURNED, 4, 7);
        dueNeeded("register 0 is used", p, "10");
        due("its kind", p.ends(11, 0), RETURN);
        due("it leads nowhere", p.ends(11, 1), NONE);
        due("it leads nowhere else", p.ends(11, 2), NONE);
        CodePruner alone = program("SET 0 -3");
        dueLeft("alone", alone, alone.run(false, 0, 9), RETURNED, 2, -3);
        CodePruner empty = program("");
        dueLeft("alone, and nothing in it", empty, empty.run(false, 0, 9), RETURNED, 1, 0);
        due("nothing to prune", empty.prune(), 0);
    }

    /** "REGISTERS are 0 .. 7". */
    private static void registers0To7() {
        for (int r = 0; r < 8; r++) {
            CodePruner p = program("SET " + r + " 9, COPY " + (7 - r) + " " + r + ", OUT " + (7 - r) + ", RETURN " + r);
            dueLeft("register " + r, p, p.run(false, 0, 9), RETURNED, 4, 9, 9);
            p.prune();
            dueLeft("register " + r + ", pruned", p, p.run(true, 0, 9), RETURNED, 4, 9, 9);
        }
    }

    /** "at first 0". */
    private static void registersAtFirst0() {
        CodePruner p = withBlocks(1);
        for (int r = 0; r < 8; r++) {
            p.add(0, OUT, r, 0, 0);
        }
        for (int r = 0; r < 8; r++) {
            p.add(0, SET, r, r + 1, 0);
        }
        p.end(0, RETURN, 7, 0, 0);
        p.prune();
        for (int turn = 0; turn < 4; turn++) {
            boolean pruned = turn % 2 == 1;
            dueLeft("run " + turn, p, p.run(pruned, 0, 99), RETURNED, pruned ? 10 : 17, 8, 0, 0, 0, 0, 0, 0, 0, 0);
        }
    }

    /** "ints": each keeps its own, the least and the greatest too. */
    private static void registersAreInts() {
        CodePruner p = withBlocks(1);
        int[] values = {LEAST, MOST, -1, 0, 1, 65536, LEAST + 1, MOST - 1};
        for (int r = 0; r < 8; r++) {
            p.add(0, SET, r, values[r], 0);
        }
        for (int r = 0; r < 8; r++) {
            p.add(0, OUT, r, 0, 0);
        }
        dueLeft("eight ints", p, p.run(false, 0, 99), RETURNED, 17, LEAST, values);
    }

    /** "SET r n (any int)": a number that looks like no register, or like one. */
    private static void setAnyInt() {
        for (int n : new int[] {LEAST, -1, 0, 7, 8, 11, 12, 60, MOST}) {
            CodePruner p = withBlocks(1);
            due("SET 1 " + n, p.add(0, SET, 1, n, 0), 0);
            p.end(0, RETURN, 1, 0, 0);
            dueLeft("SET 1 " + n, p, p.run(false, 0, 9), RETURNED, 2, n);
        }
    }

    private static void dueValue(String what, int op, int left, int right, int want) {
        CodePruner p = withBlocks(1);
        p.add(0, SET, 1, left, 0);
        p.add(0, SET, 2, right, 0);
        p.add(0, op, 3, 1, 2);
        p.end(0, RETURN, 3, 0, 0);
        dueLeft(what, p, p.run(false, 0, 4), RETURNED, 4, want);
        p.prune();
        dueLeft(what + ", pruned", p, p.run(true, 0, 4), RETURNED, 4, want);
    }

    /** "2 ADD, 3 TAKE, 4 TIMES r a b (wrapping)": the last that do not wrap and the first that do. */
    private static void wrapping() {
        dueValue("up to the most", ADD, MOST - 1, 1, MOST);
        dueValue("most and 1", ADD, MOST, 1, LEAST);
        dueValue("most and most", ADD, MOST, MOST, -2);
        dueValue("down to the least", ADD, LEAST + 1, -1, LEAST);
        dueValue("least and -1", ADD, LEAST, -1, MOST);
        dueValue("least and least", ADD, LEAST, LEAST, 0);
        dueValue("least + 1, take 1", TAKE, LEAST + 1, 1, LEAST);
        dueValue("least, take 1", TAKE, LEAST, 1, MOST);
        dueValue("0, take the least", TAKE, 0, LEAST, LEAST);
        dueValue("-1, take the least", TAKE, -1, LEAST, MOST);
        dueValue("most, take -1", TAKE, MOST, -1, LEAST);
        dueValue("46340 squared", TIMES, 46340, 46340, 2147395600);
        dueValue("46341 squared", TIMES, 46341, 46341, -2147479015);
        dueValue("most times most", TIMES, MOST, MOST, 1);
        dueValue("most times 2", TIMES, MOST, 2, -2);
        dueValue("least times -1", TIMES, LEAST, -1, LEAST);
        dueValue("least times 2", TIMES, LEAST, 2, 0);
        dueValue("65536 squared", TIMES, 65536, 65536, 0);
    }

    /** "5 OVER r a b (toward 0 ..". */
    private static void overToward0() {
        dueValue("7 over 2", OVER, 7, 2, 3);
        dueValue("-7 over 2", OVER, -7, 2, -3);
        dueValue("7 over -2", OVER, 7, -2, -3);
        dueValue("-7 over -2", OVER, -7, -2, 3);
        dueValue("1 over 2", OVER, 1, 2, 0);
        dueValue("-1 over 2", OVER, -1, 2, 0);
        dueValue("0 over 5", OVER, 0, 5, 0);
        dueValue("most over least", OVER, MOST, LEAST, 0);
        dueValue("least over most", OVER, LEAST, MOST, -1);
        dueValue("least over least", OVER, LEAST, LEAST, 1);
        dueValue("least over 1", OVER, LEAST, 1, LEAST);
        dueValue("least over -1", OVER, LEAST, -1, LEAST);
    }

    /** ".. a TRAP if b is 0)", whatever a is, and only then. */
    private static void overTraps() {
        for (int left : new int[] {0, 1, -1, LEAST, MOST}) {
            CodePruner p = program("SET 1 " + left + ", OVER 3 1 2, RETURN 3");
            dueLeft(left + " over 0", p, p.run(false, 0, 9), TRAPPED, 2, 0);
            p.prune();
            dueLeft(left + " over 0, pruned", p, p.run(true, 0, 9), TRAPPED, 2, 0);
        }
        dueValue("0 over 1", OVER, 0, 1, 0);
        dueValue("0 over -1", OVER, 0, -1, 0);
        CodePruner wrapped = program("SET 1 " + LEAST + ", ADD 2 1 1, OVER 3 1 2");
        dueLeft("over a 0 that came by wrapping", wrapped, wrapped.run(false, 0, 9), TRAPPED, 3, 0);
        CodePruner itself = program("OVER 1 1 1");
        dueLeft("0 over itself", itself, itself.run(false, 0, 9), TRAPPED, 1, 0);
    }

    private static void resultInAnOperand() {
        int[] want = {0, 6, 12, 0, 36, 1};
        for (int op = COPY; op <= OVER; op++) {
            CodePruner p = withBlocks(1);
            p.add(0, SET, 1, 6, 0);
            p.add(0, op, 1, 1, 1);
            p.end(0, RETURN, 1, 0, 0);
            dueLeft("op " + op + " 1 1 1", p, p.run(false, 0, 9), RETURNED, 3, want[op]);
            dueNeeded("op " + op + " 1 1 1", p, "11");
        }
        CodePruner second = program("SET 1 9, SET 2 4, TAKE 2 1 2, RETURN 2");
        dueLeft("TAKE 2 1 2", second, second.run(false, 0, 9), RETURNED, 4, 5);
    }

    /** What an instruction or an end does not have, it neither looks at nor uses. */
    private static void fieldsThatAreNotHad() {
        CodePruner p = withBlocks(2);
        for (int r = 1; r < 8; r++) {
            p.add(0, SET, r, 1, 0);
        }
        p.add(0, SET, 0, 3, 4);
        p.add(0, COPY, 0, 0, 5);
        p.add(0, IN, 0, 6, 7);
        p.add(0, OUT, 0, 1, 2);
        p.end(0, JUMP, 3, 1, 4);
        p.end(1, RETURN, 0, 5, 6);
        dueNeeded("fields that are not had", p, "00000000011");
        dueEnds("fields that are not had", p, "JUMP 1", "RETURN");
        due("they lead nowhere", p.run(false, 0, 99), RETURNED);
    }

    /** "The program is SOUND if from each block there is a way to one that returns". */
    private static void soundWithAWayFromEachBlock() {
        dueSound("one block", program(""), true);
        dueSound("a jump to itself", program("JUMP 0"), false);
        dueSound("a branch to itself alone", program("BRANCH 0 0 0"), false);
        dueSound("a branch to itself or on", program("BRANCH 0 0 1", ""), true);
        dueSound("a branch on or to itself", program("BRANCH 0 1 0", ""), true);
        dueSound("two that jump to each other", program("JUMP 1", "JUMP 0"), false);
        dueSound("a round that block 0 never sees", program("", "JUMP 2", "JUMP 1"), false);
        dueSound("a block that block 0 never sees", program("", "JUMP 0"), true);
        dueSound("one way into a round", program("BRANCH 0 1 2", "", "JUMP 2"), false);
        dueSound("a round with a way out", program("JUMP 1", "BRANCH 0 0 2", ""), true);
    }

    private static void dueSound(String what, CodePruner p, boolean want) {
        due(what, answer(p::prune), want ? 0 : UNSUPPORTED);
        due(what + ": count(2)", p.count(2) != NONE, want);
    }

    /** ".. and all blocks to which ends lead are there": the first that is missing, and the last. */
    private static void soundWithAllBlocksThere() {
        for (int missing : new int[] {2, 11}) {
            dueSound("a jump to " + missing, program("", "JUMP " + missing), false);
            dueSound("a branch's b is " + missing, program("", "BRANCH 0 " + missing + " 0"), false);
            dueSound("a branch's c is " + missing, program("", "BRANCH 0 0 " + missing), false);
        }
        dueSound("the last that is there", program("BRANCH 0 1 1", ""), true);
        CodePruner p = program("BRANCH 0 1 11");
        for (int x = 1; x < 12; x++) {
            dueThrow("block 11 is not there", UNSUPPORTED, p::prune);
            p.block();
        }
        due("block 11 is there", p.prune(), 0);
    }

    /** The way to the only return may pass all blocks, in whichever order they are numbered. */
    private static void soundOverTwelveBlocks() {
        dueSound("up", program(texts(12, x -> x == 11 ? "" : "JUMP " + (x + 1))), true);
        dueSound("down", program(texts(12, x -> x == 0 ? "" : "JUMP " + (x - 1))), true);
        dueSound("up in a round", program(texts(12, x -> "JUMP " + (x + 1) % 12)), false);
        dueSound("down in a round", program(texts(12, x -> "JUMP " + (x + 11) % 12)), false);
        dueSound("down, or round", program(texts(12, x -> x == 0 ? "" : "BRANCH 0 11 " + (x - 1))), true);
    }

    /** "pass x, b and the last one counted". */
    private static void postDominatesItselfAndTheLast() {
        CodePruner p = program("BRANCH 0 1 2", "JUMP 3", "JUMP 3", "");
        p.prune();
        dueNext("the last one counts", p, 3, 3, 3, NONE);
        dueDepends("the one where a way begins counts", p, "1 on 0, 2 on 0");
    }

    /** "all ways from b to a block that returns": others, which go round for ever, do not count. */
    private static void waysThatDoNotReturn() {
        CodePruner p = program("BRANCH 0 1 2", "BRANCH 0 1 3", "BRANCH 0 2 3", "");
        p.prune();
        dueNext("rounds on the way", p, 3, 3, 3, NONE);
        dueDepends("rounds on the way", p, "1 on 0, 1 on 1, 2 on 0, 2 on 2");
    }

    /** "NEXT of b: of the blocks other than b .. the one that all others of them post-dominate". */
    private static void nextIsTheNearest() {
        CodePruner up = program(texts(12, x -> x == 11 ? "" : "JUMP " + (x + 1)));
        up.prune();
        dueNext("up", up, 1, 2, 3, 4, 5, 6, 7, 8, 9, 10, 11, NONE);
        CodePruner down = program(texts(12, x -> x == 1 ? "" : "JUMP " + (x + 11) % 12));
        down.prune();
        dueNext("down", down, 11, NONE, 1, 2, 3, 4, 5, 6, 7, 8, 9, 10);
        CodePruner ladder = program(texts(12, x -> x == 11 ? "" : "BRANCH 0 " + (x + 1) + " " + Math.min(x + 2, 11)));
        ladder.prune();
        dueNext("ladder", ladder, 11, 11, 11, 11, 11, 11, 11, 11, 11, 11, 11, NONE);
        CodePruner first = program("JUMP 1", "", "JUMP 0", "BRANCH 0 2 0");
        first.prune();
        dueNext("block 0 may be one's next", first, 1, NONE, 0, 0);
        CodePruner round = program("BRANCH 0 3 0", "RETURN 0", "BRANCH 0 1 0", "BRANCH 0 2 3");
        round.prune();
        dueNext("not itself, though it comes again", round, 3, NONE, 1, 2);
    }

    /** "there is none, if there are no such blocks". */
    private static void noNext() {
        CodePruner p = program("BRANCH 0 1 2", "", "JUMP 3", "BRANCH 0 3 4", "BRANCH 0 1 5", "");
        p.prune();
        dueNext("no next", p, NONE, NONE, 3, 4, NONE, NONE);
        CodePruner twelve = program(texts(12, x -> "RETURN 0"));
        twelve.prune();
        dueNext("twelve returns", twelve, NONE, NONE, NONE, NONE, NONE, NONE, NONE, NONE, NONE, NONE, NONE, NONE);
    }

    /** "DEPENDS on a block b that ends with a branch": on a jump or a return nothing depends. */
    private static void dependsOnABranchAlone() {
        CodePruner p = program("JUMP 1", "JUMP 2", "");
        p.prune();
        dueDepends("jumps and a return", p, "");
        CodePruner q = program("BRANCH 0 1 2", "JUMP 2", "");
        q.prune();
        dueDepends("the block behind b", q, "1 on 0");
        CodePruner r = program("BRANCH 0 2 1", "JUMP 2", "");
        r.prune();
        dueDepends("the block behind c", r, "1 on 0");
        CodePruner both = program("BRANCH 0 1 1", "");
        both.prune();
        dueDepends("b and c are the same", both, "");
    }

    /** "and not: x is another block than b ..": a block may depend on itself. */
    private static void dependsOnItself() {
        CodePruner direct = program("BRANCH 0 0 1", "");
        direct.prune();
        dueDepends("back to itself", direct, "0 on 0");
        CodePruner round = program("BRANCH 0 1 2", "JUMP 0", "");
        round.prune();
        dueDepends("back by way of another", round, "0 on 0, 1 on 0");
        CodePruner late = program("", "JUMP 2", "BRANCH 0 1 0");
        late.prune();
        dueDepends("asked at the end of the round", late, "1 on 2, 2 on 2");
    }

    /** ".. and post-dominates b". */
    private static void dependsNotOnWhatItPostDominates() {
        CodePruner p = program("BRANCH 0 2 1", "JUMP 2", "BRANCH 0 0 3", "");
        p.prune();
        dueDepends("2 comes after 0 in any case", p, "0 on 2, 1 on 0, 2 on 2");
    }

    /** Depending on what depends is not depending. */
    private static void dependsOnOneStepAlone() {
        CodePruner p = program("BRANCH 0 1 4", "BRANCH 0 2 3", "JUMP 3", "JUMP 4", "");
        p.prune();
        dueDepends("one in the other", p, "1 on 0, 2 on 1, 3 on 0");
        CodePruner returns = program("BRANCH 0 1 2", "", "BRANCH 0 1 3", "");
        returns.prune();
        dueDepends("returns", returns, "1 on 0, 1 on 2, 2 on 0, 3 on 2");
    }

    /** "on which no other instruction sets r (SET, COPY, ADD, TAKE, TIMES, OVER, IN set r)". */
    private static void reachesUntilSetAgain() {
        for (int op = SET; op <= OUT; op++) {
            CodePruner p = withBlocks(1);
            p.add(0, SET, 7, 5, 0);
            p.add(0, op, 7, 1, 2);
            p.add(0, OUT, 7, 0, 0);
            dueNeeded("op " + op + " between", p, op == OUT ? "111" : "011");
        }
        for (int r = 0; r < 8; r++) {
            CodePruner p = program("SET 3 5, SET " + r + " 6, OUT 3, RETURN 3");
            dueNeeded("register " + r + " is set between", p, r == 3 ? "011" : "101");
            dueNeeded("register " + r + " is put out between", program("SET 0 5, OUT " + r + ", RETURN 0"), "11");
        }
        dueNeeded("set on one of two ways",
            program("SET 1 5, BRANCH 2 1 2", "SET 1 6, JUMP 3", "JUMP 3", "RETURN 1"), "11");
        dueNeeded("set on both ways",
            program("SET 1 5, BRANCH 2 1 2", "SET 1 6, JUMP 3", "SET 1 7, JUMP 3", "RETURN 1"), "011");
        dueNeeded("set behind the place alone", program("OUT 1, SET 1 5, RETURN 0"), "10");
    }

    /** "a way from behind it to this place": the way may come round to a place before it. */
    private static void reachesRoundALoop() {
        dueNeeded("to a place before it", program("OUT 1, SET 1 5, BRANCH 2 0 1", ""), "11");
        dueNeeded("not past another", program("SET 1 4, OUT 1, SET 1 5, BRANCH 2 0 1", ""), "110");
        dueNeeded("past itself",
            program("JUMP 1", "SET 1 4, BRANCH 2 1 2", "OUT 1"), "11");
        dueNeeded("to itself", program("JUMP 1", "ADD 1 1 3, SET 3 1, BRANCH 2 1 2", "OUT 1"), "111");
    }

    /** A value may come round through all blocks, in whichever order they are numbered. */
    private static void reachesThroughTwelveBlocks() {
        for (int last = 0; last < 12; last++) {
            for (int start = 0; start < 12; start++) {
                if (start != last) {
                    dueNeeded("up, from " + start + " past " + last, round(start, last, 1), "11");
                    dueNeeded("down, from " + start + " past " + last, round(start, last, 11), "11");
                }
            }
        }
    }

    /** All blocks but the last one stand in a round, which is left from the block start alone. */
    private static CodePruner round(int start, int last, int stride) {
        return program(texts(12, x -> {
            int then = (x + stride) % 12;
            int on = then == last ? (then + stride) % 12 : then;
            String there = x == start ? "OUT 1, SET 1 5, BRANCH 0 " + on + " " + last : "JUMP " + on;
            return x == last ? "RETURN 2" : there;
        }));
    }

    private static void reachesFromBlocksThatAreNotRun() {
        dueNeeded("a block that is never run", program("OUT 1", "SET 1 5, JUMP 0"), "11");
    }

    /** "all IN, OUT and OVER; all returns": also where nothing uses or runs them. */
    private static void neededInAnyCase() {
        dueNeeded("nothing uses them", program("IN 1, OVER 2 3 3, OUT 4, SET 5 1, SET 1 1, SET 2 1"), "111000");
        dueNeeded("nothing runs them", program("", "IN 1, OVER 2 3 3, OUT 4, SET 5 1"), "1110");
        dueNeeded("all returns", program("", "SET 1 5, RETURN 1", "SET 2 5, RETURN 2", "SET 3 5"), "110");
        dueNeeded("no other", program("SET 1 1, COPY 2 1, ADD 3 1 2, TAKE 4 1 2, TIMES 5 1 2"), "00000");
    }

    /** "with an instruction .. all instructions that set a register that it uses and reach it". */
    private static void neededWithAnInstruction() {
        String sets = "SET 1 1, SET 2 2, SET 3 3, ";
        dueNeeded("COPY", program(sets + "COPY 0 2 3"), "0101");
        for (String op : new String[] {"ADD", "TAKE", "TIMES", "OVER"}) {
            dueNeeded(op, program(sets + op + " 0 1 3"), "1011");
            dueNeeded(op + " twice the same", program(sets + op + " 0 2 2"), "0101");
        }
        dueNeeded("OUT", program(sets + "OUT 3"), "0011");
        dueNeeded("IN", program(sets + "IN 3, RETURN 0"), "0001");
        dueNeeded("SET", program(sets + "SET 0 3, RETURN 0"), "0001");
    }

    /** "with an .. end": a return's register, a branch's when it is needed. */
    private static void neededWithAnEnd() {
        for (int r = 0; r < 8; r++) {
            CodePruner p = program("SET 0 1, SET 1 1, SET 2 1, SET 3 1, SET 4 1, SET 5 1, SET 6 1, SET 7 1, RETURN " + r);
            dueNeeded("return " + r, p, "0".repeat(r) + "1" + "0".repeat(7 - r));
        }
        dueNeeded("a branch that is needed", program("SET 1 1, SET 2 1, BRANCH 1 1 2", "OUT 5, JUMP 2", ""), "101");
        dueNeeded("a branch that is not", program("SET 1 1, SET 2 1, BRANCH 1 1 2", "JUMP 2", "OUT 5"), "001");
    }

    /** "with an instruction or return in a block all branches on whose blocks this block depends". */
    private static void neededBranches() {
        dueBranches("an instruction", program("BRANCH 1 1 2", "IN 1, JUMP 2", ""), "BRANCH 1 2", "JUMP 2", "RETURN");
        dueBranches("a return", program("BRANCH 1 1 2", "", ""), "BRANCH 1 2", "RETURN", "RETURN");
        dueBranches("neither", program("BRANCH 1 1 2", "SET 1 5, JUMP 2", "OUT 2"), "JUMP 2", "JUMP 2", "RETURN");
        dueBranches("two branches", program("BRANCH 1 1 2", "BRANCH 2 3 4", "BRANCH 3 3 4", "OUT 1, JUMP 4", ""),
            "BRANCH 1 2", "BRANCH 3 4", "BRANCH 3 4", "JUMP 4", "RETURN");
    }

    private static void dueBranches(String what, CodePruner p, String... want) {
        p.prune();
        dueEnds(what, p, want);
    }

    /** "with a branch those on which its block depends, likewise". */
    private static void neededBranchesOfBranches() {
        CodePruner p = program("SET 1 1, BRANCH 1 1 4", "SET 2 1, BRANCH 2 2 3", "OUT 5, JUMP 3", "JUMP 4", "");
        dueNeeded("one in the other", p, "111");
        dueEnds("one in the other", p, "BRANCH 1 4", "BRANCH 2 3", "JUMP 3", "JUMP 4", "RETURN");
        for (int stride : new int[] {1, 11}) {
            CodePruner deep = nest(stride, "SET 1 1, ", "OUT 0, ", "");
            dueNeeded("ten in each other", deep, "1".repeat(11));
            due("ten in each other: none becomes a jump", deep.count(2), 0);
            CodePruner bare = nest(stride, "", "OUT 0, ", "");
            dueNeeded("ten bare ones in each other", bare, "1");
            due("ten bare ones in each other: none becomes a jump", bare.count(2), 0);
            CodePruner free = nest(stride, "SET 1 1, ", "", "OUT 0, ");
            due("ten in each other for nothing: prune", free.prune(), 10);
            due("ten in each other for nothing: all become jumps", free.count(2), 10);
        }
    }

    /** Ten branches one in the other, each behind the text before; else all lead to the last block. */
    private static CodePruner nest(int stride, String before, String inmost, String behind) {
        String[] blocks = new String[12];
        int last = 11 * stride % 12;
        for (int depth = 0; depth < 10; depth++) {
            int inner = (depth + 1) * stride % 12;
            blocks[depth * stride % 12] = before + "BRANCH 1 " + inner + " " + last;
        }
        blocks[10 * stride % 12] = inmost + "JUMP " + last;
        blocks[last] = behind + "RETURN 0";
        return program(blocks);
    }

    /** The least set is reached through 60 instructions too, and through the branches between. */
    private static void neededLongChains() {
        StringBuilder chain = new StringBuilder("SET 0 5");
        for (int k = 1; k < 60; k++) {
            chain.append(", COPY " + k % 8 + " " + (k - 1) % 8);
        }
        dueNeeded("59 copies", program(chain + ", RETURN 3"), "1".repeat(60));
        dueNeeded("59 copies, but for the last four", program(chain + ", RETURN 7"), "1".repeat(56) + "0000");
        dueNeeded("a value that moves one register a round",
            program("OUT 0, COPY 0 1, COPY 1 2, COPY 2 3, COPY 3 4, COPY 4 5, COPY 5 6, COPY 6 7, SET 7 5, BRANCH 0 0 1", ""),
            "1".repeat(9));
    }

    /**
     * A value goes round eleven blocks in one register, then in the one below it, and so on: each
     * instruction is needed for the one added before it alone, so that they are found one by one.
     */
    private static void neededOneByOne() {
        CodePruner p = chainRoundBlocks();
        dueNeeded("sixty one by one", p, "1".repeat(60));
        due("sixty one by one: the branch stays", p.ends(10, 0), BRANCH);
        CodePruner broken = chainRoundBlocks();
        broken.end(11, RETURN, 6, 0, 0);
        dueNeeded("none of the sixty", broken, "0".repeat(60));
        due("none of the sixty: the branch goes", broken.count(2), 1);
    }

    private static CodePruner chainRoundBlocks() {
        CodePruner p = withBlocks(12);
        for (int k = 0; k < 60; k++) {
            due("add", p.add(10 - k % 11, COPY, k / 11, (k + 1) / 11, 0), k);
        }
        for (int x = 0; x < 10; x++) {
            p.end(x, JUMP, 0, x + 1, 0);
        }
        p.end(10, BRANCH, 7, 0, 11);
        p.end(11, RETURN, 0, 0, 0);
        return p;
    }

    /** "(Jumps are not counted.)": a block with a jump alone holds nothing that is needed. */
    private static void jumpsAreNotCounted() {
        dueBranches("a jump depends, too", program("BRANCH 1 1 2", "JUMP 2", "OUT 0"), "JUMP 2", "JUMP 2", "RETURN");
        dueBranches("a jump is passed over", program("BRANCH 1 1 1", "JUMP 2", "OUT 0"), "JUMP 2", "JUMP 2", "RETURN");
    }

    /** "a jump to the first block along NEXT, NEXT of this, and so on, in which something is needed". */
    private static void pruneToTheFirstWithSomethingNeeded() {
        dueBranches("an instruction", program("BRANCH 1 1 2", "JUMP 2", "OUT 1, JUMP 3", ""),
            "JUMP 2", "JUMP 2", "JUMP 3", "RETURN");
        dueBranches("instructions that are not needed", program("BRANCH 1 1 2", "JUMP 2", "SET 1 1, JUMP 3", ""),
            "JUMP 3", "JUMP 2", "JUMP 3", "RETURN");
        dueBranches("the last of several instructions",
            program("BRANCH 1 1 2", "JUMP 2", "SET 1 1, SET 1 2, IN 1, JUMP 3", ""),
            "JUMP 2", "JUMP 2", "JUMP 3", "RETURN");
        dueBranches("a needed branch alone", program("BRANCH 1 1 2", "JUMP 2", "BRANCH 2 3 4", "", ""),
            "JUMP 2", "JUMP 2", "BRANCH 3 4", "RETURN", "RETURN");
        dueBranches("a branch that is not needed", program("BRANCH 1 1 2", "JUMP 2", "BRANCH 2 3 4", "JUMP 4", ""),
            "JUMP 4", "JUMP 2", "JUMP 4", "JUMP 4", "RETURN");
        dueBranches("a return alone", program("BRANCH 1 1 2", "JUMP 2", ""), "JUMP 2", "JUMP 2", "RETURN");
        dueBranches("not what stands beside the way",
            program("BRANCH 1 1 2", "SET 1 5, JUMP 3", "JUMP 3", "JUMP 4", "IN 2"),
            "JUMP 4", "JUMP 3", "JUMP 3", "JUMP 4", "RETURN");
    }

    private static void pruneAlongElevenBlocks() {
        CodePruner up = program(texts(12, x -> x == 11 ? "" : "BRANCH 1 " + (x + 1) + " " + (x + 1)));
        up.prune();
        due("up: count(2)", up.count(2), 11);
        dueEnds("up", up, texts(12, x -> x == 11 ? "RETURN" : "JUMP 11"));
        dueLeft("up, pruned", up, up.run(true, 0, 99), RETURNED, 2, 0);
        dueLeft("up, as it was", up, up.run(false, 0, 99), RETURNED, 12, 0);
        CodePruner down = program(texts(12, x -> x == 1 ? "" : "BRANCH 1 " + (x + 11) % 12 + " " + (x + 11) % 12));
        down.prune();
        due("down: count(2)", down.count(2), 11);
        dueEnds("down", down, texts(12, x -> x == 1 ? "RETURN" : "JUMP 1"));
        dueLeft("down, pruned", down, down.run(true, 0, 99), RETURNED, 2, 0);
    }

    /** Jumps, returns and needed branches stay, even if they lead where nothing is needed. */
    private static void pruneLeavesOtherEnds() {
        CodePruner p = program("JUMP 1", "JUMP 2", "BRANCH 1 3 4", "JUMP 5", "OUT 1, JUMP 5", "JUMP 6", "RETURN 3");
        p.prune();
        dueEnds("other ends", p, "JUMP 1", "JUMP 2", "BRANCH 3 4", "JUMP 5", "JUMP 5", "JUMP 6", "RETURN");
        due("none became a jump", p.count(2), 0);
        dueLeft("other ends", p, p.run(true, 0, 99), RETURNED, 7, 0, 0);
    }

    /** "A RUN begins at block 0 with registers 0": nothing of an earlier run is left. */
    private static void runBeginsAnew() {
        CodePruner p = program("OUT 1, IN 1, OUT 1, BRANCH 1 1 1", "OUT 2, SET 2 5, RETURN 2");
        p.prune();
        for (int turn = 0; turn < 3; turn++) {
            dueLeft("turn " + turn, p, p.run(false, INPUT, 99), RETURNED, 7, 5, 0, -4, 0);
            dueLeft("turn " + turn + ", cut off in block 1", p, p.run(false, INPUT, 6), NO_FUEL, 6, 0, 0, -4, 0);
            dueLeft("turn " + turn + ", pruned", p, p.run(true, INPUT + 9, 99), RETURNED, 7, 5, 0, 5, 0);
        }
    }

    /** "each instruction and each end that is done is a STEP". */
    private static void eachInstructionAndEndIsAStep() {
        CodePruner p = program("SET 1 1, COPY 2 1, ADD 3 1 2, TAKE 3 3 1, TIMES 3 3 2, OVER 3 3 1, IN 4, OUT 3, JUMP 1",
            "BRANCH 1 2 1", "RETURN 3");
        for (int fuel = 0; fuel <= 12; fuel++) {
            String what = "fuel " + fuel;
            due(what, p.run(false, 0, fuel), fuel < 11 ? NO_FUEL : RETURNED);
            due(what + ": steps", p.ran(0), Math.min(fuel, 11));
            due(what + ": out", p.ran(1), fuel < 8 ? 0 : 1);
            due(what + ": value", p.ran(2), fuel < 11 ? 0 : 1);
        }
    }

    private static String inAndOut(int times) {
        return "IN 1, OUT 1, ".repeat(times);
    }

    /** "k-th number of the input (from 0 on): .. from bit 4 * (k mod 8) on". */
    private static void inputBeginsAgainAfterEight() {
        CodePruner p = program(inAndOut(17) + "RETURN 1");
        dueLeft("seventeen", p, p.run(false, INPUT, 99), RETURNED, 35, -4,
            -4, -3, -2, -1, 0, 1, 2, 3, -4, -3, -2, -1, 0, 1, 2, 3, -4);
        p.prune();
        dueLeft("seventeen, pruned", p, p.run(true, ~INPUT, 99), RETURNED, 35, 11,
            11, 10, 9, 8, 7, 6, 5, 4, 11, 10, 9, 8, 7, 6, 5, 4, 11);
        CodePruner loop = program("IN 1, BRANCH 2 1 0", "RETURN 1");
        due("a thousand", loop.run(false, 0, 2000), NO_FUEL);
        CodePruner last = program("IN 1, ADD 1 1 2, BRANCH 1 0 1", "RETURN 2");
        dueLeft("the eighth ends it", last, last.run(false, 0x45555555, 2000), RETURNED, 25, 0);
        dueLeft("none ends it", last, last.run(false, 0x55555555, 2000), NO_FUEL, 2000, 0);
    }

    /** "four bits of it .. less 4". */
    private static void inputIsFourBitsLess4() {
        CodePruner p = program("IN 1, RETURN 1");
        for (int bits = 0; bits < 16; bits++) {
            p.run(false, bits, 9);
            due("the four bits " + bits, p.ran(2), bits - 4);
            p.run(false, ~15 | bits, 9);
            due("the four bits " + bits + ", all others set", p.ran(2), bits - 4);
        }
        CodePruner eighth = program("IN 1, IN 1, IN 1, IN 1, IN 1, IN 1, IN 1, IN 1, RETURN 1");
        for (int bits = 0; bits < 16; bits++) {
            eighth.run(false, bits << 28, 9);
            due("the last four bits " + bits, eighth.ran(2), bits - 4);
        }
        CodePruner all = program(inAndOut(8) + "RETURN 1");
        dueLeft("input 0", all, all.run(false, 0, 99), RETURNED, 17, -4, -4, -4, -4, -4, -4, -4, -4, -4);
        dueLeft("input -1", all, all.run(false, -1, 99), RETURNED, 17, 11, 11, 11, 11, 11, 11, 11, 11, 11);
        dueLeft("the least input", all, all.run(false, LEAST, 99), RETURNED, 17, 4, -4, -4, -4, -4, -4, -4, -4, 4);
        dueLeft("the greatest input", all, all.run(false, MOST, 99), RETURNED, 17, 3, 11, 11, 11, 11, 11, 11, 11, 3);
    }

    /** k counts what was taken in this run, in whichever block and register. */
    private static void inputIsTakenByInAlone() {
        CodePruner p = program("IN 1, OUT 1, BRANCH 0 1 2", "IN 2, IN 3", "IN 3, OUT 3, OUT 0, JUMP 3", "IN 0, OUT 0");
        dueLeft("three are taken", p, p.run(false, INPUT, 99), RETURNED, 10, -2, -4, -3, 0, -2);
        dueLeft("the next run begins again", p, p.run(false, INPUT, 99), RETURNED, 10, -2, -4, -3, 0, -2);
    }

    /** "A trap ends the run (the instruction counts)." */
    private static void trapEndsTheRun() {
        CodePruner p = program("SET 1 7, OUT 1, OVER 2 1 3, OUT 1, RETURN 1");
        dueLeft("what came before is kept", p, p.run(false, 0, 99), TRAPPED, 3, 0, 7);
        dueLeft("the fuel is enough", p, p.run(false, 0, 3), TRAPPED, 3, 0, 7);
        dueLeft("the fuel is not enough", p, p.run(false, 0, 2), NO_FUEL, 2, 0, 7);
        due("the trap is needed", p.prune(), 0);
        dueLeft("pruned", p, p.run(true, 0, 99), TRAPPED, 3, 0, 7);
        CodePruner some = program("IN 1, OVER 2 1 1, OUT 2");
        dueLeft("a trap", some, some.run(false, 4, 99), TRAPPED, 2, 0);
        dueLeft("no trap", some, some.run(false, 3, 99), RETURNED, 4, 0, 1);
        dueLeft("a trap again", some, some.run(false, 4, 99), TRAPPED, 2, 0);
    }

    /** "What was put OUT is kept, the first 50." */
    private static void first50AreKept() {
        CodePruner p = program("SET 1 1, SET 3 100, JUMP 1", "OUT 3, ADD 3 3 1, JUMP 1");
        for (int outs : new int[] {0, 1, 49, 50, 51, 666}) {
            int steps = Math.min(3 + 3 * outs, 2000);
            due(outs + " are put out", p.run(false, 0, steps), NO_FUEL);
            due(outs + " are put out: ran(1)", p.ran(1), outs);
            for (int k : new int[] {0, 1, 48, 49, 50, 51, outs - 1, outs}) {
                boolean isKept = k >= 0 && k < outs && k < 50;
                due(outs + " are put out: out(" + k + ")", answer(() -> p.out(k)), isKept ? k + 100 : ELEMENT);
            }
        }
    }
}
