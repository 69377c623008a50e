import java.util.function.Consumer;
import java.util.function.Function;
import java.util.function.Supplier;

/** What the tests share: the document's numbers by name, programs as texts, answers compared. */
abstract class Checks {
    static final int SET = 0;
    static final int COPY = 1;
    static final int ADD = 2;
    static final int TAKE = 3;
    static final int TIMES = 4;
    static final int OVER = 5;
    static final int IN = 6;
    static final int OUT = 7;
    static final int RETURN = 0;
    static final int JUMP = 1;
    static final int BRANCH = 2;
    static final int RETURNED = 0;
    static final int TRAPPED = 1;
    static final int NO_FUEL = 2;
    static final int NONE = -1;
    static final int LEAST = Integer.MIN_VALUE;
    static final int MOST = Integer.MAX_VALUE;
    static final String STATE = "throws.IllegalStateException";
    static final String ARGUMENT = "throws.IllegalArgumentException";
    static final String ELEMENT = "throws.NoSuchElementException";
    static final String UNSUPPORTED = "throws.UnsupportedOperationException";
    static final String DONE = "done";

    private static final String[] OPS = {"SET", "COPY", "ADD", "TAKE", "TIMES", "OVER", "IN", "OUT"};
    private static final String[] KINDS = {"RETURN", "JUMP", "BRANCH"};

    private static int wrong = 0;

    static void finish() {
        System.out.println(wrong == 0 ? "all answers are as due" : wrong + " are not as due");
        if (wrong != 0) {
            System.exit(1);
        }
    }

    static void due(String what, Object got, Object want) {
        if (!got.equals(want)) {
            wrong++;
            System.out.println(what + " answered " + got + ", due is " + want);
        }
    }

    /** The answer of the call, or throws. and the name of what it throws. */
    static Object answer(Supplier<Object> call) {
        try {
            return call.get();
        } catch (RuntimeException e) {
            return "throws." + e.getClass().getSimpleName();
        }
    }

    static void dueThrow(String what, String want, Supplier<Object> call) {
        due(what, answer(call), want);
    }

    static Object endOf(CodePruner p, int x, int kind, int a, int b, int c) {
        p.end(x, kind, a, b, c);
        return DONE;
    }

    static CodePruner withBlocks(int n) {
        CodePruner p = new CodePruner();
        for (int i = 0; i < n; i++) {
            due("block()", p.block(), i);
        }
        return p;
    }

    /** A text for each block, like "IN 1, OUT 1, BRANCH 1 0 2"; instructions are added in order. */
    static CodePruner program(String... blocks) {
        return programIn(new CodePruner(), blocks);
    }

    /** The same in an object that has no blocks, but may have had some. */
    static CodePruner programIn(CodePruner p, String... blocks) {
        for (int x = 0; x < blocks.length; x++) {
            due("block()", p.block(), x);
        }
        for (int x = 0; x < blocks.length; x++) {
            for (String part : blocks[x].isEmpty() ? new String[0] : blocks[x].split(", ")) {
                writePart(p, x, part.split(" "));
            }
        }
        return p;
    }

    private static void writePart(CodePruner p, int x, String[] words) {
        int a = numberAt(words, 1);
        int b = numberAt(words, 2);
        int c = numberAt(words, 3);
        int op = indexOf(OPS, words[0]);
        int kind = indexOf(KINDS, words[0]);
        if (op != NONE) {
            p.add(x, op, a, b, c);
        } else if (kind == JUMP) {
            p.end(x, JUMP, 0, a, 0);
        } else if (kind != NONE) {
            p.end(x, kind, a, b, c);
        } else {
            throw new AssertionError("no such instruction or end: " + words[0]);
        }
    }

    private static int numberAt(String[] words, int i) {
        return i < words.length ? Integer.parseInt(words[i]) : 0;
    }

    private static int indexOf(String[] names, String name) {
        for (int i = 0; i < names.length; i++) {
            if (names[i].equals(name)) {
                return i;
            }
        }
        return NONE;
    }

    /** n texts, of each x the one that the function gives. */
    static String[] texts(int n, Function<Integer, String> text) {
        String[] made = new String[n];
        for (int x = 0; x < n; x++) {
            made[x] = text.apply(x);
        }
        return made;
    }

    /** Prunes, and wants for each instruction a 1 if it is needed, else a 0. */
    static void dueNeeded(String what, CodePruner p, String want) {
        int gone = p.prune();
        StringBuilder got = new StringBuilder();
        for (int k = 0; k < p.count(1); k++) {
            got.append(p.needed(k) ? '1' : '0');
        }
        due(what + ": needed", got.toString(), want);
        due(what + ": how many went", gone, (int) want.chars().filter(c -> c == '0').count());
    }

    /** Wants NEXT of each block of a program that is pruned. */
    static void dueNext(String what, CodePruner p, int... want) {
        due(what + ": count(0)", p.count(0), want.length);
        for (int x = 0; x < want.length; x++) {
            due(what + ": next(" + x + ")", p.next(x), want[x]);
        }
    }

    /** Wants exactly these pairs, like "1 on 0, 2 on 0". */
    static void dueDepends(String what, CodePruner p, String want) {
        StringBuilder got = new StringBuilder();
        for (int x = 0; x < p.count(0); x++) {
            for (int b = 0; b < p.count(0); b++) {
                if (p.depends(x, b)) {
                    got.append(got.length() == 0 ? "" : ", ").append(x + " on " + b);
                }
            }
        }
        due(what + ": depends", got.toString(), want);
    }

    /** Wants a text for the end of each block in the pruned program, like "BRANCH 1 2". */
    static void dueEnds(String what, CodePruner p, String... want) {
        due(what + ": count(0)", p.count(0), want.length);
        for (int x = 0; x < want.length; x++) {
            due(what + ": end of " + x, endText(p, x), want[x]);
        }
    }

    private static String endText(CodePruner p, int x) {
        StringBuilder text = new StringBuilder(KINDS[p.ends(x, 0)]);
        for (int what = 1; what <= 2; what++) {
            int y = p.ends(x, what);
            text.append(y == NONE ? "" : " " + y);
        }
        return text.toString();
    }

    /** What the latest call of run, which answered this, is to have left. */
    static void dueLeft(String what, CodePruner p, int answered, int answer, int steps, int value, int... outs) {
        due(what + ": run", answered, answer);
        due(what + ": steps", p.ran(0), steps);
        due(what + ": value", p.ran(2), value);
        due(what + ": how many out", p.ran(1), outs.length);
        for (int k = 0; k < outs.length; k++) {
            due(what + ": out(" + k + ")", p.out(k), outs[k]);
        }
        dueThrow(what + ": out past the last", ELEMENT, () -> p.out(outs.length));
    }

    /**
     * All that can be seen of an object, as a text; some 400 calls on one with 12 blocks and 60
     * instructions, so an object is to be looked at once.
     */
    static String look(CodePruner p) {
        StringBuilder seen = new StringBuilder();
        lookAtRun(p, seen);
        lookAtPruned(p, seen);
        for (boolean pruned : new boolean[] {true, false}) {
            see(seen, "run", () -> p.run(pruned, 0x76543210, 2000));
            lookAtRun(p, seen);
        }
        see(seen, "prune", p::prune);
        see(seen, "count(2)", () -> p.count(2));
        see(seen, "block", p::block);
        return seen.toString();
    }

    private static void lookAtRun(CodePruner p, StringBuilder seen) {
        for (int what = 0; what < 3; what++) {
            int w = what;
            see(seen, "ran", () -> p.ran(w));
        }
        for (int k : new int[] {0, 1, 2, 3, 49}) {
            see(seen, "out", () -> p.out(k));
        }
    }

    private static void lookAtPruned(CodePruner p, StringBuilder seen) {
        for (int what = 0; what < 3; what++) {
            int w = what;
            see(seen, "count", () -> p.count(w));
        }
        for (int block = 0; block < p.count(0); block++) {
            int x = block;
            see(seen, "next", () -> p.next(x));
            for (int i = 0; i < 3; i++) {
                int what = i;
                see(seen, "ends", () -> p.ends(x, what));
            }
            for (int i = 0; i < 12; i++) {
                int b = i;
                see(seen, "depends", () -> p.depends(x, b));
            }
        }
        for (int i = 0; i < 60; i++) {
            int k = i;
            see(seen, "needed", () -> p.needed(k));
        }
    }

    private static void see(StringBuilder seen, String what, Supplier<Object> call) {
        seen.append(what).append(' ').append(answer(call)).append('\n');
    }

    /** The call is to throw, and is to leave its object like one on which it was not made. */
    static void dueRefused(String what, String want, Supplier<CodePruner> maker, Function<CodePruner, Object> call) {
        CodePruner asked = maker.get();
        dueThrow(what, want, () -> call.apply(asked));
        dueAlike(what + " leaves all as it was", asked, maker.get());
    }

    static void dueAlike(String what, CodePruner got, CodePruner want) {
        due(what + ": the difference", difference(look(got), look(want)), "nothing");
    }

    private static String difference(String got, String want) {
        String[] gotLines = got.split("\n");
        String[] wantLines = want.split("\n");
        for (int i = 0; i < Math.min(gotLines.length, wantLines.length); i++) {
            if (!gotLines[i].equals(wantLines[i])) {
                return gotLines[i] + " instead of " + wantLines[i];
            }
        }
        return got.equals(want) ? "nothing" : "how many blocks there are";
    }

    /** The call is to leave nothing of a pruned program and of a run. */
    static void dueForgotten(String what, CodePruner p, Consumer<CodePruner> call) {
        call.accept(p);
        due(what + ": count(2)", p.count(2), NONE);
        for (int i = 0; i < 3; i++) {
            due(what + ": ran(" + i + ")", p.ran(i), 0);
        }
        dueThrow(what + ": out(0)", ELEMENT, () -> p.out(0));
        dueThrow(what + ": next(0)", ELEMENT, () -> p.next(0));
        dueThrow(what + ": depends(0, 0)", ELEMENT, () -> p.depends(0, 0));
        dueThrow(what + ": needed(0)", ELEMENT, () -> p.needed(0));
        dueThrow(what + ": ends(0, 0)", ELEMENT, () -> p.ends(0, 0));
        dueThrow(what + ": run of the pruned one", STATE, () -> p.run(true, 0, 9));
    }
}
