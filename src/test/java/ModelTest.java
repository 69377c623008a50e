import java.util.ArrayList;
import java.util.HashSet;
import java.util.List;
import java.util.NoSuchElementException;
import java.util.Random;
import java.util.Set;
import java.util.function.Supplier;

/**
 * Plays seeded runs of calls on a CodePruner and on a Model, a slow second reading of the document
 * that looks at ways one by one, and compares every answer.
 */
public final class ModelTest {
    private static final int RUNS = 4000;
    /** The document promises nothing about an object after this many calls. */
    private static final int MOST_CALLS = 512;
    private static final int MOST_WRONG = 20;

    private static int wrong = 0;
    private static int seed = 0;
    private static int calls = 0;
    private static int prunes = 0;
    private static int bigPrunes = 0;
    private static int sweptBranches = 0;
    private static int traps = 0;

    public static void main(String[] args) {
        for (seed = 0; seed < RUNS && wrong < MOST_WRONG; seed++) {
            play(new Random(seed));
        }
        if (prunes < 2000 || bigPrunes < 500 || sweptBranches < 2000 || traps < 500) {
            wrong++;
            System.out.println("too little was tried: " + prunes + " programs pruned, " + bigPrunes
                + " big ones, " + sweptBranches + " branches swept, " + traps + " traps");
        }
        System.out.println(wrong == 0 ? "all answers are as the model's" : wrong + " differ");
        if (wrong != 0) {
            System.exit(1);
        }
    }

    private static void play(Random random) {
        CodePruner pruner = new CodePruner();
        Model model = new Model();
        int most = 1 + random.nextInt(12);
        int building = random.nextInt(160);
        calls = 0;
        while (calls < MOST_CALLS) {
            int sort = random.nextInt(calls < building ? 55 : 100);
            if (sort < 12 && model.blocks.size() < most || sort == 99) {
                both("block()", () -> pruner.block(), () -> model.block());
            } else if (sort < 35) {
                playAdd(random, pruner, model);
            } else if (sort < 55) {
                playEnd(random, pruner, model);
            } else if (sort < 75) {
                playPrune(random, pruner, model);
            } else if (sort == 98) {
                playClear(pruner, model);
            } else {
                playRun(random, pruner, model);
            }
        }
    }

    private static void playClear(CodePruner pruner, Model model) {
        both("clear()",
            () -> {
                pruner.clear();
                return 0;
            },
            () -> {
                model.clear();
                return 0;
            });
    }

    private static int around(Random random, int size) {
        return random.nextInt(40) == 0 ? random.nextInt(3) * (size + 1) - 1 : random.nextInt(Math.max(1, size));
    }

    private static void playAdd(Random random, CodePruner pruner, Model model) {
        int x = around(random, model.blocks.size());
        int op = around(random, 8);
        int a = around(random, 8);
        int b = op == 0 ? random.nextInt(random.nextBoolean() ? 3 : Integer.MAX_VALUE) - 1 : around(random, 8);
        int c = around(random, 8);
        both("add(" + x + ", " + op + ", " + a + ", " + b + ", " + c + ")",
            () -> pruner.add(x, op, a, b, c), () -> model.add(x, op, a, b, c));
    }

    private static void playEnd(Random random, CodePruner pruner, Model model) {
        int x = around(random, model.blocks.size());
        int kind = random.nextInt(3) == 0 ? around(random, 3) : 2;
        int a = around(random, 8);
        int b = random.nextInt(60) == 0 ? around(random, 12) : random.nextInt(Math.max(1, model.blocks.size()));
        int c = random.nextInt(60) == 0 ? around(random, 12) : random.nextInt(Math.max(1, model.blocks.size()));
        both("end(" + x + ", " + kind + ", " + a + ", " + b + ", " + c + ")",
            () -> {
                pruner.end(x, kind, a, b, c);
                return 0;
            },
            () -> {
                model.end(x, kind, a, b, c);
                return 0;
            });
    }

    private static void playPrune(Random random, CodePruner pruner, Model model) {
        both("prune()", () -> pruner.prune(), () -> model.prune());
        if (model.pruned != null) {
            prunes++;
            bigPrunes += model.blocks.size() >= 8 ? 1 : 0;
            sweptBranches += model.count(2);
        }
        // Asking for all takes most of an object's calls: on some, a part of it must do.
        int part = model.pruned == null ? 60 : 1 + random.nextInt(3) * random.nextInt(10);
        askAboutBlocks(random, part, pruner, model);
        for (int k = -1; k <= model.all.size(); k++) {
            int i = k;
            if (random.nextInt(part) == 0) {
                both("needed(" + i + ")", () -> pruner.needed(i), () -> model.needed(i));
            }
        }
        for (int what = -1; what < 4; what++) {
            int w = what;
            both("count(" + w + ")", () -> pruner.count(w), () -> model.count(w));
        }
    }

    private static void askAboutBlocks(Random random, int part, CodePruner pruner, Model model) {
        for (int x = -1; x <= model.blocks.size(); x++) {
            int i = x;
            both("next(" + i + ")", () -> pruner.next(i), () -> model.next(i));
            for (int y = -1; y <= model.blocks.size(); y++) {
                int j = y;
                if (random.nextInt(part) == 0) {
                    both("depends(" + i + ", " + j + ")", () -> pruner.depends(i, j), () -> model.depends(i, j));
                }
            }
            for (int what = -1; what < 4; what++) {
                int w = what;
                if (random.nextInt(part) == 0) {
                    both("ends(" + i + ", " + w + ")", () -> pruner.ends(i, w), () -> model.ends(i, w));
                }
            }
        }
    }

    private static void playRun(Random random, CodePruner pruner, Model model) {
        int input = random.nextInt();
        int fuel = random.nextInt(4) == 0 ? random.nextInt(40) - 2 : random.nextInt(2500);
        runBoth(random.nextBoolean(), input, fuel, pruner, model);
        for (int what = -1; what < 4; what++) {
            int w = what;
            both("ran(" + w + ")", () -> pruner.ran(w), () -> model.ran(w));
        }
        int size = model.outs.size();
        for (int k : new int[] {-1, 0, 1, random.nextInt(50), 49, 50, size - 1, size}) {
            both("out(" + k + ")", () -> pruner.out(k), () -> model.out(k));
        }
        if (model.pruned != null) {
            lookForChange(input, pruner, model);
        }
    }

    /** Answers the model's answer. */
    private static Object runBoth(boolean pruned, int input, int fuel, CodePruner pruner, Model model) {
        Object answer = both("run(" + pruned + ", " + input + ", " + fuel + ")",
            () -> pruner.run(pruned, input, fuel), () -> model.run(pruned, input, fuel));
        traps += answer.equals(1) ? 1 : 0;
        return answer;
    }

    /** What is to be seen must not change by pruning, if the program ends as it was. */
    private static void lookForChange(int input, CodePruner pruner, Model model) {
        if (calls + 2 > MOST_CALLS) {
            return;
        }
        Object answer = runBoth(false, input, 2000, pruner, model);
        List<Integer> outs = model.outs;
        int value = model.value;
        Object answerThen = runBoth(true, input, 2000, pruner, model);
        boolean same = answer.equals(answerThen) && outs.equals(model.outs) && value == model.value;
        if (!answer.equals(2) && !same) {
            wrong++;
            System.out.println("seed " + seed + ", call " + calls + ": pruning changed what is to be seen");
        }
    }

    /** Makes one call, unless the object has had all its calls; answers the model's answer. */
    private static Object both(String what, Supplier<Object> got, Supplier<Object> want) {
        if (calls >= MOST_CALLS) {
            return "no call";
        }
        calls++;
        Object g = answer(got);
        Object w = answer(want);
        if (!g.equals(w)) {
            wrong++;
            System.out.println("seed " + seed + ", call " + calls + ": " + what + " answered " + g + ", the model " + w);
        }
        return w;
    }

    private static Object answer(Supplier<Object> call) {
        try {
            return call.get();
        } catch (RuntimeException e) {
            return e.getClass().getName();
        }
    }

    /** An instruction (kind NONE) or an end (op NONE), wherever it stands. */
    private static final class Item {
        int op = -1;
        int kind = -1;
        int a;
        int b;
        int c;
        Block home;

        int sets() {
            return kind == -1 && op != 7 ? a : -1;
        }

        Set<Integer> uses() {
            Set<Integer> found = new HashSet<>();
            if (kind == 0 || kind == 2 || op == 7) {
                found.add(a);
            }
            if (op >= 1 && op <= 5) {
                found.add(b);
            }
            if (op >= 2 && op <= 5) {
                found.add(c);
            }
            return found;
        }
    }

    private static final class Block {
        int number;
        List<Item> items = new ArrayList<>();
        Item end;
    }

    private static final class PrunedModel {
        Set<Item> needed = new HashSet<>();
        List<Item> ends = new ArrayList<>();
        int swept = 0;
        int jumps = 0;
    }

    private static final class Model {
        List<Block> blocks = new ArrayList<>();
        List<Item> all = new ArrayList<>();
        PrunedModel pruned = null;
        List<List<Set<Integer>>> ways = null;
        List<Integer> outs = new ArrayList<>();
        int steps = 0;
        int value = 0;

        void forget() {
            pruned = null;
            ways = null;
            outs = new ArrayList<>();
            steps = 0;
            value = 0;
        }

        int block() {
            if (blocks.size() == 12) {
                throw new IllegalStateException();
            }
            forget();
            Block x = new Block();
            x.number = blocks.size();
            x.end = item(x, -1, 0, 0, 0, 0);
            blocks.add(x);
            return x.number;
        }

        static Item item(Block home, int op, int kind, int a, int b, int c) {
            Item made = new Item();
            made.op = op;
            made.kind = kind;
            made.a = a;
            made.b = b;
            made.c = c;
            made.home = home;
            return made;
        }

        Block blockAt(int x) {
            if (x < 0 || x >= blocks.size()) {
                throw new NoSuchElementException();
            }
            return blocks.get(x);
        }

        static void ask(boolean holds) {
            if (!holds) {
                throw new IllegalArgumentException();
            }
        }

        int add(int x, int op, int a, int b, int c) {
            Block home = blockAt(x);
            ask(op >= 0 && op < 8);
            Item made = item(home, op, -1, a, b, c);
            Set<Integer> registers = made.uses();
            registers.add(a);
            for (int r : registers) {
                ask(r >= 0 && r < 8);
            }
            if (all.size() == 60) {
                throw new IllegalStateException();
            }
            forget();
            home.items.add(made);
            all.add(made);
            return all.size() - 1;
        }

        void end(int x, int kind, int a, int b, int c) {
            Block home = blockAt(x);
            ask(kind == 0 || kind == 1 || kind == 2);
            ask(kind == 1 || a >= 0 && a < 8);
            ask(kind == 0 || b >= 0 && b < 12);
            ask(kind != 2 || c >= 0 && c < 12);
            forget();
            home.end = item(home, -1, kind, a, b, c);
        }

        void clear() {
            forget();
            blocks.clear();
            all.clear();
        }

        List<Integer> leads(Item end) {
            return end.kind == 0 ? List.of() : end.kind == 1 ? List.of(end.b) : List.of(end.b, end.c);
        }

        boolean allThere() {
            for (Block x : blocks) {
                for (int y : leads(x.end)) {
                    if (y >= blocks.size()) {
                        return false;
                    }
                }
            }
            return true;
        }

        /** The blocks of each way from x to a return that passes no block twice. */
        void walk(int x, Set<Integer> passed, List<Set<Integer>> found) {
            if (!passed.add(x)) {
                return;
            }
            if (blocks.get(x).end.kind == 0) {
                found.add(new HashSet<>(passed));
            }
            for (int y : leads(blocks.get(x).end)) {
                if (!passed.contains(y)) {
                    walk(y, passed, found);
                }
            }
            passed.remove(x);
        }

        void findWays() {
            ways = new ArrayList<>();
            for (Block x : blocks) {
                List<Set<Integer>> found = new ArrayList<>();
                walk(x.number, new HashSet<>(), found);
                ways.add(found);
            }
        }

        boolean postDominates(int x, int b) {
            for (Set<Integer> way : ways.get(b)) {
                if (!way.contains(x)) {
                    return false;
                }
            }
            return true;
        }

        int findNext(int b) {
            for (int x = 0; x < blocks.size(); x++) {
                boolean is = x != b && postDominates(x, b);
                for (int y = 0; y < blocks.size(); y++) {
                    if (y != b && y != x && postDominates(y, b)) {
                        is = is && postDominates(y, x);
                    }
                }
                if (is) {
                    return x;
                }
            }
            return -1;
        }

        boolean findDepends(int x, int b) {
            Item end = blocks.get(b).end;
            return end.kind == 2 && (postDominates(x, end.b) || postDominates(x, end.c))
                && !(x != b && postDominates(x, b));
        }

        /** All instructions that set r and reach the place before the item, found backwards. */
        Set<Item> reaching(Item place, int r) {
            Set<Item> found = new HashSet<>();
            int at = place.kind == -1 ? place.home.items.indexOf(place) : place.home.items.size();
            back(place.home, at, r, found, new HashSet<>());
            return found;
        }

        void back(Block x, int at, int r, Set<Item> found, Set<Block> seen) {
            for (int i = at - 1; i >= 0; i--) {
                if (x.items.get(i).sets() == r) {
                    found.add(x.items.get(i));
                    return;
                }
            }
            for (Block y : blocks) {
                if (leads(y.end).contains(x.number) && seen.add(y)) {
                    back(y, y.items.size(), r, found, seen);
                }
            }
        }

        void need(Item item, Set<Item> needed) {
            if (!needed.add(item)) {
                return;
            }
            for (int r : item.uses()) {
                for (Item source : reaching(item, r)) {
                    need(source, needed);
                }
            }
            for (Block b : blocks) {
                if (findDepends(item.home.number, b.number)) {
                    need(b.end, needed);
                }
            }
        }

        int prune() {
            if (blocks.isEmpty()) {
                throw new IllegalStateException();
            }
            if (!allThere()) {
                throw new UnsupportedOperationException();
            }
            findWays();
            for (List<Set<Integer>> of : ways) {
                if (of.isEmpty()) {
                    throw new UnsupportedOperationException();
                }
            }
            PrunedModel made = new PrunedModel();
            for (Item item : all) {
                if (item.op == 5 || item.op == 6 || item.op == 7) {
                    need(item, made.needed);
                }
            }
            for (Block x : blocks) {
                if (x.end.kind == 0) {
                    need(x.end, made.needed);
                }
            }
            for (Item item : all) {
                made.swept += made.needed.contains(item) ? 0 : 1;
            }
            for (Block x : blocks) {
                made.ends.add(pruneEnd(x, made));
            }
            pruned = made;
            return made.swept;
        }

        Item pruneEnd(Block x, PrunedModel made) {
            if (x.end.kind != 2 || made.needed.contains(x.end)) {
                return x.end;
            }
            made.jumps++;
            int y = findNext(x.number);
            while (!holdsNeeded(blocks.get(y), made)) {
                y = findNext(y);
            }
            return item(x, -1, 1, 0, y, 0);
        }

        boolean holdsNeeded(Block x, PrunedModel made) {
            boolean holds = made.needed.contains(x.end);
            for (Item item : x.items) {
                holds = holds || made.needed.contains(item);
            }
            return holds;
        }

        PrunedModel prunedOne() {
            if (pruned == null) {
                throw new NoSuchElementException();
            }
            return pruned;
        }

        int count(int what) {
            return what == 0 ? blocks.size() : what == 1 ? all.size()
                : what == 2 && pruned != null ? pruned.jumps : -1;
        }

        int next(int x) {
            prunedOne();
            return findNext(blockAt(x).number);
        }

        boolean depends(int x, int b) {
            prunedOne();
            return findDepends(blockAt(x).number, blockAt(b).number);
        }

        boolean needed(int k) {
            prunedOne();
            if (k < 0 || k >= all.size()) {
                throw new NoSuchElementException();
            }
            return pruned.needed.contains(all.get(k));
        }

        int ends(int x, int what) {
            prunedOne();
            blockAt(x);
            if (what < 0 || what > 2) {
                throw new NoSuchElementException();
            }
            Item end = pruned.ends.get(x);
            return what == 0 ? end.kind : what <= leads(end).size() ? leads(end).get(what - 1) : -1;
        }

        int run(boolean asPruned, int input, int fuel) {
            if (blocks.isEmpty() || asPruned && pruned == null) {
                throw new IllegalStateException();
            }
            if (!allThere()) {
                throw new UnsupportedOperationException();
            }
            outs = new ArrayList<>();
            steps = 0;
            value = 0;
            int[] registers = new int[8];
            int taken = 0;
            int x = 0;
            int at = 0;
            int most = fuel < 0 ? 0 : fuel > 2000 ? 2000 : fuel;
            while (steps < most) {
                List<Item> row = new ArrayList<>();
                for (Item item : blocks.get(x).items) {
                    if (!asPruned || pruned.needed.contains(item)) {
                        row.add(item);
                    }
                }
                row.add(asPruned ? pruned.ends.get(x) : blocks.get(x).end);
                Item item = row.get(at);
                at++;
                steps++;
                if (item.kind == 0) {
                    value = registers[item.a];
                    return 0;
                }
                if (item.kind > 0) {
                    x = item.kind == 1 || registers[item.a] != 0 ? item.b : item.c;
                    at = 0;
                } else if (item.op == 7) {
                    outs.add(registers[item.a]);
                } else if (item.op == 6) {
                    long bits = input & 0xFFFFFFFFL;
                    for (int k = 0; k < taken % 8; k++) {
                        bits /= 16;
                    }
                    registers[item.a] = (int) (bits % 16) - 4;
                    taken++;
                } else if (item.op == 5 && registers[item.c] == 0) {
                    return 1;
                } else {
                    registers[item.a] = compute(item, registers);
                }
            }
            return 2;
        }

        static int compute(Item item, int[] registers) {
            if (item.op == 0) {
                return item.b;
            }
            long left = registers[item.b];
            if (item.op == 1) {
                return (int) left;
            }
            long right = registers[item.c];
            return (int) (item.op == 2 ? left + right : item.op == 3 ? left - right
                : item.op == 4 ? left * right : left / right);
        }

        int ran(int what) {
            return what == 0 ? steps : what == 1 ? outs.size() : what == 2 ? value : -1;
        }

        int out(int k) {
            if (k < 0 || k >= 50 || k >= outs.size()) {
                throw new NoSuchElementException();
            }
            return outs.get(k);
        }
    }
}
