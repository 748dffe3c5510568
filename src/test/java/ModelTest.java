import java.util.ArrayList;
import java.util.List;
import java.util.TreeSet;

/**
 * Runs of 512 calls from fixed seeds, each call answered by the class and by a second program that holds the same
 * things otherwise: blocks are objects that places point to, counts are looked up each time, refusals are exceptions.
 */
public final class ModelTest {
    private static final int RUNS = 600;
    private static final int COMPARED_EACH = 100;
    /** How often all runs together must have got each answer that a call's line tells. */
    private static final int OFTEN = 100;
    private static final int[][] EVERYTHING = Calls.everything();

    public static void main(String[] args) {
        Answers answers = new Answers();
        for (int seed = 0; seed < RUNS; seed++) {
            String fault = run(seed, answers);
            if (fault != null) {
                System.out.println(fault);
                System.exit(1);
            }
        }
        String fault = answers.fault(OFTEN);
        if (fault != null) {
            System.out.println(fault);
            System.exit(1);
        }
        System.out.println(RUNS + " runs agree");
    }

    private static String run(int seed, Answers answers) {
        CutFiles x = new CutFiles();
        Model model = new Model();
        List<int[]> calls = new ArrayList<>();
        StringBuilder told = new StringBuilder();
        for (int[] call : Chance.run(seed)) {
            int want = model.answer(call);
            int got = Calls.answer(x, call);
            calls.add(call);
            answers.add(call, want);
            told.append(Calls.text(call)).append(" = ").append(want).append('\n');
            if (got != want) {
                return told + "seed " + seed + ": the class answered " + got;
            }
            String fault = calls.size() % COMPARED_EACH == 0 ? compareAll(calls, model) : null;
            if (fault != null) {
                return told + "seed " + seed + ": " + fault;
            }
        }
        return null;
    }

    /** Everything is asked of copies, made by the same calls: the object itself goes on with its own 512 calls. */
    private static String compareAll(List<int[]> calls, Model model) {
        int[] answers = Calls.answersBehind(calls, EVERYTHING);
        for (int i = 0; i < EVERYTHING.length; i++) {
            int want = model.answer(EVERYTHING[i]);
            if (answers[i] != want) {
                return Calls.text(EVERYTHING[i]) + " is " + answers[i] + ", due is " + want;
            }
        }
        return null;
    }

    /** How often each call was answered what: only what its line of the document tells, and each of that often. */
    private static final class Answers {
        private static final int BELOW_ALL = 10;
        private final int[][] seen = new int[Calls.TOLD.length][BELOW_ALL + 1];

        private void add(int[] call, int answer) {
            seen[call[0]][answer >= 0 ? 0 : Math.min(BELOW_ALL, -answer)]++;
        }

        private String fault(int often) {
            for (int kind = 0; kind < seen.length; kind++) {
                TreeSet<Integer> told = new TreeSet<>();
                told.add(0);
                for (int answer : Calls.TOLD[kind]) {
                    told.add(-answer);
                }
                for (int below = 0; below <= BELOW_ALL; below++) {
                    if (told.contains(below) ? seen[kind][below] < often : seen[kind][below] > 0) {
                        return Calls.name(kind) + " was answered " + (below == 0 ? "a number" : -below) + " "
                            + seen[kind][below] + " times";
                    }
                }
            }
            return null;
        }
    }

    private static final class Refusal extends RuntimeException {
        private static final long serialVersionUID = 1L;
        private final int answer;

        private Refusal(int answer) {
            super(null, null, false, false);
            this.answer = answer;
        }
    }

    private static final class Block {
        private final int number;
        private final int[] cells = new int[4];

        private Block(int number) {
            this.number = number;
        }
    }

    private static final class Model {
        private final Block[][] files = new Block[4][24];
        private final int[] sizes = new int[4];
        private int failure = -9;
        /** The places that are yet to be exchanged, and those that were: file, place, file, place. */
        private final List<int[]> toDo = new ArrayList<>();
        private final List<int[]> done = new ArrayList<>();

        private int answer(int[] c) {
            try {
                return switch (c[0]) {
                    case 0 -> read(c[1], c[2]);
                    case 1 -> write(c[1], c[2], c[3], c[4]);
                    case 2 -> cut(c[1], c[2]);
                    case 3 -> punch(c[1], c[2], c[3]);
                    case 4 -> collapse(c[1], c[2], c[3]);
                    case 5 -> insert(c[1], c[2], c[3]);
                    case 6 -> share(c[1], c[2], c[3], c[4], c[5]);
                    case 7 -> unshare(c[1], c[2], c[3]);
                    case 8 -> failure(c[1]);
                    case 9 -> exchange(c[1], c[2], c[3], c[4], c[5]);
                    case 10 -> mount(c[1] == 1);
                    case 11 -> ofFile(c[1], c[2]);
                    case 12 -> block(c[1], c[2]);
                    case 13 -> piece(c[1], c[2], c[3]);
                    case 14 -> seek(c[1], c[2], c[3] == 1);
                    case 15 -> count(c[1]);
                    case 16 -> range(c[1], c[2]);
                    default -> many(c[1]);
                };
            } catch (Refusal refusal) {
                return refusal.answer;
            }
        }

        private static void refuse(boolean when, int answer) {
            if (when) {
                throw new Refusal(answer);
            }
        }

        private static void file(int f) {
            refuse(f < 0 || f > 3, -1);
        }

        private static void inside(int value, int least, int most) {
            refuse(value < least || value > most, -2);
        }

        private void up() {
            refuse(!toDo.isEmpty(), -3);
        }

        private int countOf(int number) {
            int many = 0;
            for (Block[] file : files) {
                for (Block block : file) {
                    if (block != null && block.number == number) {
                        many++;
                    }
                }
            }
            return many;
        }

        private TreeSet<Integer> free() {
            TreeSet<Integer> free = new TreeSet<>();
            for (int b = 0; b < 48; b++) {
                if (countOf(b) == 0) {
                    free.add(b);
                }
            }
            return free;
        }

        private static List<List<Integer>> runs(TreeSet<Integer> free) {
            List<List<Integer>> runs = new ArrayList<>();
            int last = -5;
            for (int b : free) {
                if (b != last + 1) {
                    runs.add(new ArrayList<>());
                }
                runs.get(runs.size() - 1).add(b);
                last = b;
            }
            return runs;
        }

        private List<Integer> getBlocks(int n) {
            TreeSet<Integer> free = free();
            refuse(free.size() < n, -6);
            List<Integer> got = new ArrayList<>();
            while (got.size() < n) {
                int rest = n - got.size();
                List<Integer> fewest = null;
                List<Integer> most = null;
                for (List<Integer> run : runs(free)) {
                    if (run.size() >= rest && (fewest == null || run.size() < fewest.size())) {
                        fewest = run;
                    }
                    if (most == null || run.size() > most.size()) {
                        most = run;
                    }
                }
                List<Integer> taken = fewest == null ? most : fewest.subList(0, rest);
                got.addAll(taken);
                free.removeAll(taken);
            }
            return got;
        }

        private int own(int f, TreeSet<Integer> places, boolean holes) {
            List<Integer> needy = new ArrayList<>();
            for (int p : places) {
                Block block = files[f][p];
                if (block == null ? holes : countOf(block.number) > 1) {
                    needy.add(p);
                }
            }
            List<Integer> got = getBlocks(needy.size());
            for (int p : needy) {
                Block block = new Block(got.remove(0));
                if (files[f][p] != null) {
                    System.arraycopy(files[f][p].cells, 0, block.cells, 0, 4);
                }
                files[f][p] = block;
            }
            return needy.size();
        }

        private int read(int f, int i) {
            file(f);
            inside(i, 0, sizes[f] - 1);
            return files[f][i / 4] == null ? 0 : files[f][i / 4].cells[i % 4];
        }

        private int write(int f, int at, int n, int v) {
            file(f);
            inside(at, 0, 95);
            inside(n, 1, 96 - at);
            inside(v, 0, 255);
            up();
            TreeSet<Integer> places = new TreeSet<>();
            for (int i = at; i < at + n; i++) {
                places.add(i / 4);
            }
            own(f, places, true);
            for (int i = at; i < at + n; i++) {
                files[f][i / 4].cells[i % 4] = v;
            }
            sizes[f] = Math.max(sizes[f], at + n);
            return sizes[f];
        }

        private int punchRange(int f, int from, int end) {
            TreeSet<Integer> touched = new TreeSet<>();
            TreeSet<Integer> kept = new TreeSet<>();
            for (int i = 0; i < sizes[f]; i++) {
                if (i >= from && i < end) {
                    touched.add(i / 4);
                } else {
                    kept.add(i / 4);
                }
            }
            TreeSet<Integer> parts = new TreeSet<>(touched);
            parts.retainAll(kept);
            own(f, parts, false);
            int gone = 0;
            for (int p : touched) {
                if (!parts.contains(p) && files[f][p] != null) {
                    files[f][p] = null;
                    gone++;
                }
            }
            for (int i = from; i < Math.min(end, sizes[f]); i++) {
                if (files[f][i / 4] != null) {
                    files[f][i / 4].cells[i % 4] = 0;
                }
            }
            return gone;
        }

        private int cut(int f, int size) {
            file(f);
            inside(size, 0, 96);
            up();
            int old = sizes[f];
            if (size < old) {
                punchRange(f, size, old);
            }
            sizes[f] = size;
            return old;
        }

        private int punch(int f, int at, int n) {
            file(f);
            inside(at, 0, 95);
            inside(n, 1, 96 - at);
            up();
            return punchRange(f, at, at + n);
        }

        private int collapse(int f, int p, int n) {
            file(f);
            inside(p, 0, 23);
            inside(n, 1, 24 - p);
            up();
            refuse(4 * (p + n) > sizes[f] - 1, -3);
            List<Block> places = placesOf(f);
            for (int i = 0; i < n; i++) {
                places.remove(p);
                places.add(null);
            }
            files[f] = places.toArray(new Block[0]);
            sizes[f] -= 4 * n;
            return sizes[f];
        }

        private int insert(int f, int p, int n) {
            file(f);
            inside(p, 0, 23);
            inside(n, 1, 24);
            up();
            refuse(4 * p > sizes[f] - 1, -3);
            refuse(sizes[f] + 4 * n > 96, -4);
            List<Block> places = placesOf(f);
            for (int i = 0; i < n; i++) {
                places.add(p, null);
                if (places.remove(24) != null) {
                    throw new IllegalStateException("a block fell off the end");
                }
            }
            files[f] = places.toArray(new Block[0]);
            sizes[f] += 4 * n;
            return sizes[f];
        }

        private List<Block> placesOf(int f) {
            List<Block> places = new ArrayList<>();
            for (Block block : files[f]) {
                places.add(block);
            }
            return places;
        }

        private void two(int f, int p, int g, int q, int n) {
            file(f);
            file(g);
            inside(p, 0, 23);
            inside(q, 0, 23);
            inside(n, 1, 24 - Math.max(p, q));
            up();
            refuse(4 * (p + n) > sizes[f], -3);
            for (int i = 0; f == g && i < n; i++) {
                refuse(p + i >= q && p + i < q + n, -3);
            }
        }

        private int share(int f, int p, int g, int q, int n) {
            two(f, p, g, q, n);
            for (int i = 0; i < n; i++) {
                files[g][q + i] = files[f][p + i];
            }
            sizes[g] = Math.max(sizes[g], 4 * (q + n));
            return sizes[g];
        }

        private int unshare(int f, int p, int n) {
            file(f);
            inside(p, 0, 23);
            inside(n, 1, 24 - p);
            up();
            TreeSet<Integer> places = new TreeSet<>();
            for (int i = p; i < p + n; i++) {
                places.add(i);
            }
            return own(f, places, false);
        }

        private int failure(int k) {
            if (k != -9) {
                inside(k, 0, 23);
            }
            up();
            int old = failure;
            failure = k;
            return old;
        }

        private void swap(int[] step) {
            Block one = files[step[0]][step[1]];
            files[step[0]][step[1]] = files[step[2]][step[3]];
            files[step[2]][step[3]] = one;
        }

        private int exchange(int f, int p, int g, int q, int n) {
            two(f, p, g, q, n);
            refuse(4 * (q + n) > sizes[g], -3);
            done.clear();
            for (int i = 0; i < n; i++) {
                toDo.add(new int[] {f, p + i, g, q + i});
            }
            while (!toDo.isEmpty() && done.size() != failure) {
                swap(toDo.get(0));
                done.add(toDo.remove(0));
            }
            failure = -9;
            return done.size();
        }

        private int mount(boolean forward) {
            refuse(toDo.isEmpty(), -3);
            List<int[]> steps = forward ? toDo : done;
            int many = steps.size();
            for (int[] step : steps) {
                swap(step);
            }
            toDo.clear();
            return many;
        }

        private List<int[]> pieces(int f) {
            List<int[]> pieces = new ArrayList<>();
            int[] last = null;
            for (int p = 0; p < 24; p++) {
                Block block = files[f][p];
                if (block == null) {
                    last = null;
                } else if (last != null && block.number == last[1] + last[2]) {
                    last[2]++;
                } else {
                    last = new int[] {p, block.number, 1};
                    pieces.add(last);
                }
            }
            return pieces;
        }

        private int ofFile(int f, int what) {
            file(f);
            inside(what, 0, 3);
            int blocks = 0;
            int shared = 0;
            for (Block block : files[f]) {
                if (block != null) {
                    blocks++;
                    shared += countOf(block.number) > 1 ? 1 : 0;
                }
            }
            return new int[] {sizes[f], blocks, shared, pieces(f).size()}[what];
        }

        private int block(int f, int p) {
            file(f);
            inside(p, 0, 23);
            return files[f][p] == null ? -9 : files[f][p].number;
        }

        private int piece(int f, int k, int what) {
            file(f);
            inside(k, 0, 23);
            inside(what, 0, 2);
            List<int[]> pieces = pieces(f);
            return k < pieces.size() ? pieces.get(k)[what] : -9;
        }

        private int seek(int f, int at, boolean data) {
            file(f);
            inside(at, 0, 96);
            int i = at;
            while (i < sizes[f] && data != (files[f][i / 4] != null)) {
                i++;
            }
            return i >= sizes[f] && data ? -9 : i;
        }

        private int count(int b) {
            inside(b, 0, 47);
            return countOf(b);
        }

        /** First block, how many, the count. */
        private List<int[]> bands() {
            List<int[]> bands = new ArrayList<>();
            int[] last = null;
            for (int b = 0; b < 48; b++) {
                int count = countOf(b);
                if (count == 0) {
                    last = null;
                } else if (last != null && last[2] == count) {
                    last[1]++;
                } else {
                    last = new int[] {b, 1, count};
                    bands.add(last);
                }
            }
            return bands;
        }

        private int range(int k, int what) {
            inside(k, 0, 47);
            inside(what, 0, 4);
            if (what < 2) {
                List<List<Integer>> runs = runs(free());
                return k >= runs.size() ? -9 : what == 0 ? runs.get(k).get(0) : runs.get(k).size();
            }
            List<int[]> bands = bands();
            return k < bands.size() ? bands.get(k)[what - 2] : -9;
        }

        private int many(int what) {
            inside(what, 0, 5);
            int shared = 0;
            for (int b = 0; b < 48; b++) {
                shared += countOf(b) > 1 ? 1 : 0;
            }
            return new int[] {free().size(), shared, runs(free()).size(), bands().size(), toDo.isEmpty() ? 0 : 1,
                toDo.size()}[what];
        }
    }
}
