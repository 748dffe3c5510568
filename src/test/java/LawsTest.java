import java.util.ArrayList;
import java.util.Arrays;
import java.util.HashMap;
import java.util.List;
import java.util.Map;

/**
 * What the document says of every state, behind runs of chance: what calls tell fits together (Terms 1 and 4), the
 * cells of files are those of four plain rows that know of no block (Terms 2), and an exchange is whole or not at all
 * (Terms 3).
 */
public final class LawsTest {
    private static final int RUNS = 160;
    private static final int LOOKED_EACH = 73;
    private static final int NONE = CutFiles.NONE;
    private static final int[][] EVERYTHING = Calls.everything();
    private static final Map<String, Integer> WHERE = new HashMap<>();

    private static int looks = 0;
    private static int downs = 0;

    private final List<int[]> calls;
    private final int[] answers;

    private LawsTest(List<int[]> calls) {
        this.calls = calls;
        this.answers = Calls.answersBehind(calls, EVERYTHING);
    }

    public static void main(String[] args) {
        for (int i = 0; i < EVERYTHING.length; i++) {
            WHERE.put(Calls.text(EVERYTHING[i]), i);
        }
        for (int seed = 0; seed < RUNS; seed++) {
            run(1000 + seed);
        }
        System.out.println("the laws hold in " + looks + " states; " + downs + " exchanges were whole or not at all");
        if (looks < RUNS || downs < RUNS) {
            System.exit(1);
        }
    }

    private static void run(int seed) {
        CutFiles x = new CutFiles();
        Rows rows = new Rows();
        List<int[]> calls = new ArrayList<>();
        for (int[] call : Chance.run(seed)) {
            boolean wasDown = rows.isDown();
            List<int[]> ahead = wasDown ? null : new ArrayList<>(calls);
            calls.add(call);
            rows.change(call, Calls.answer(x, call));
            if (!wasDown && rows.isDown()) {
                wholeOrNotAtAll(ahead, call, calls);
            }
            if (calls.size() % LOOKED_EACH == 0) {
                looks++;
                new LawsTest(calls).holds(rows);
            }
        }
    }

    private static void law(boolean holds, String law, List<int[]> calls) {
        if (!holds) {
            for (int[] call : calls) {
                System.out.println(Calls.text(call));
            }
            System.out.println("broken behind these: " + law);
            System.exit(1);
        }
    }

    private int told(String name, int... arguments) {
        return answers[WHERE.get(Calls.text(Calls.call(name, arguments)))];
    }

    private void law(boolean holds, String law) {
        law(holds, law, calls);
    }

    private void holds(Rows rows) {
        for (int f = 0; f < 4; f++) {
            sizeAndPlaces(f);
            cells(f, rows.cells[f]);
            pieces(f);
            seeks(f);
        }
        counts();
        stretches(true);
        stretches(false);
        law(told("many", 4) == (rows.isDown() ? 1 : 0), "whether it is DOWN");
        law(told("many", 5) == rows.yetToDo(), "STEPS that are yet to be done");
    }

    private void sizeAndPlaces(int f) {
        int size = told("ofFile", f, 0);
        law(size >= 0 && size <= 96, "SIZE is 0 .. 96");
        int blocks = 0;
        int shared = 0;
        for (int p = 0; p < 24; p++) {
            int b = told("block", f, p);
            law(b == NONE || b >= 0 && b <= 47, "each PLACE has a BLOCK or is a HOLE");
            law(b == NONE || 4 * p < size, "PLACES all of whose CELLS are at SIZE or behind it are HOLES");
            blocks += b == NONE ? 0 : 1;
            shared += b != NONE && told("count", b) > 1 ? 1 : 0;
            for (int i = 4 * p; b == NONE && i < Math.min(size, 4 * p + 4); i++) {
                law(told("read", f, i) == 0, "CELLS of a HOLE are 0");
            }
        }
        law(told("ofFile", f, 1) == blocks, "how many PLACES have a BLOCK");
        law(told("ofFile", f, 2) == shared, "how many PLACES have a SHARED BLOCK");
    }

    private void cells(int f, int[] due) {
        law(told("ofFile", f, 0) == due.length, "SIZE of " + f);
        for (int i = 0; i <= 96; i++) {
            int cell = told("read", f, i);
            law(cell == (i < due.length ? due[i] : CutFiles.OUTSIDE), "CELL " + i + " of " + f);
        }
        if (told("many", 4) == 0) {
            CutFiles longer = Calls.replay(calls);
            longer.cut(f, 96);
            boolean isLast = calls.size() + 97 - due.length >= Calls.MOST;
            for (int i = due.length; i < 96 && !isLast; i++) {
                law(longer.read(f, i) == 0, "CELLS at SIZE or behind it are 0");
            }
        }
    }

    private void pieces(int f) {
        int k = 0;
        int p = 0;
        while (p < 24) {
            int length = 1;
            int b = told("block", f, p);
            while (b != NONE && p + length < 24 && told("block", f, p + length) == b + length) {
                length++;
            }
            if (b != NONE) {
                law(told("piece", f, k, 0) == p && told("piece", f, k, 1) == b && told("piece", f, k, 2) == length,
                    "PIECE " + k + " of " + f);
                k++;
            }
            p += length;
        }
        law(told("ofFile", f, 3) == k, "how many PIECES");
        law(k == 24 || told("piece", f, k, 0) == NONE, "there are no more PIECES");
    }

    private void seeks(int f) {
        int size = told("ofFile", f, 0);
        for (int at = 0; at <= 96; at++) {
            boolean below = at < size;
            boolean data = below && told("block", f, at / 4) != NONE;
            int nextData = below ? told("seek", f, at + 1, 1) : NONE;
            int nextHole = below ? told("seek", f, at + 1, 0) : at;
            law(told("seek", f, at, 1) == (data ? at : nextData), "data from " + at + " on");
            law(told("seek", f, at, 0) == (data ? nextHole : at), "a HOLE from " + at + " on");
        }
    }

    private void counts() {
        int[] due = new int[48];
        for (int f = 0; f < 4; f++) {
            for (int p = 0; p < 24; p++) {
                if (told("block", f, p) != NONE) {
                    due[told("block", f, p)]++;
                }
            }
        }
        int free = 0;
        int shared = 0;
        for (int b = 0; b < 48; b++) {
            law(told("count", b) == due[b], "COUNT of " + b);
            free += due[b] == 0 ? 1 : 0;
            shared += due[b] > 1 ? 1 : 0;
        }
        law(told("many", 0) == free, "how many are FREE");
        law(told("many", 1) == shared, "how many are SHARED");
    }

    /** RUNS (free) or BANDS: one behind the other, they are all BLOCKS of their kind, and none can be longer. */
    private void stretches(boolean free) {
        int many = told("many", free ? 2 : 3);
        int end = 0;
        for (int k = 0; k < many; k++) {
            int first = told("range", k, free ? 0 : 2);
            int length = told("range", k, free ? 1 : 3);
            int count = free ? 0 : told("range", k, 4);
            law(length > 0 && first >= end && first + length <= 48, "RUNS and BANDS are in their order");
            law(free || count > 0, "COUNT of a BAND is above 0");
            for (int b = end; b < first; b++) {
                law((told("count", b) == 0) != free, "no BLOCK is left out between two");
            }
            for (int b = first; b < first + length; b++) {
                law(told("count", b) == count, "all BLOCKS of one have its COUNT");
            }
            law(first == 0 || told("count", first - 1) != count, "as many as may be, ahead");
            law(first + length == 48 || told("count", first + length) != count, "as many as may be, behind");
            end = first + length;
        }
        for (int b = end; b < 48; b++) {
            law((told("count", b) == 0) != free, "no BLOCK is left out behind the last");
        }
        law(many == 48 || told("range", many, free ? 0 : 2) == NONE, "there are no more");
    }

    /** MOUNTED backward it lies as ahead of the exchange, MOUNTED forward as behind the same one without a failure. */
    private static void wholeOrNotAtAll(List<int[]> ahead, int[] exchange, List<int[]> calls) {
        if (calls.size() + 2 >= Calls.MOST) {
            return;
        }
        downs++;
        List<int[]> backward = new ArrayList<>(calls);
        backward.add(Calls.call("mount", 0));
        law(Arrays.equals(Calls.answersBehind(backward, EVERYTHING), Calls.answersBehind(ahead, EVERYTHING)),
            "not at all, when it is MOUNTED backward", calls);
        List<int[]> forward = new ArrayList<>(calls);
        forward.add(Calls.call("mount", 1));
        List<int[]> whole = new ArrayList<>(ahead);
        whole.add(Calls.call("failure", NONE));
        whole.add(exchange);
        law(Arrays.equals(Calls.answersBehind(forward, EVERYTHING), Calls.answersBehind(whole, EVERYTHING)),
            "whole, when it is MOUNTED forward", calls);
    }

    /** The cells of the four files as plain rows; what was refused is not done. */
    private static final class Rows {
        private int[][] cells = new int[4][0];
        /** The exchange that is not whole yet, and how many of its steps were done; null: it is not DOWN. */
        private int[] log = null;
        private int done = 0;

        private boolean isDown() {
            return log != null;
        }

        private int yetToDo() {
            return log == null ? 0 : log[5] - done;
        }

        private void change(int[] c, int answer) {
            if (answer < 0) {
                return;
            }
            switch (Calls.name(c[0])) {
                case "write" -> {
                    grow(c[1], c[2] + c[3]);
                    Arrays.fill(cells[c[1]], c[2], c[2] + c[3], c[4]);
                }
                case "cut" -> cells[c[1]] = Arrays.copyOf(cells[c[1]], c[2]);
                case "punch" -> {
                    int size = cells[c[1]].length;
                    Arrays.fill(cells[c[1]], Math.min(c[2], size), Math.min(c[2] + c[3], size), 0);
                }
                case "collapse" -> cells[c[1]] = joined(c[1], 4 * c[2], 0, 4 * (c[2] + c[3]));
                case "insert" -> cells[c[1]] = joined(c[1], 4 * c[2], 4 * c[3], 4 * c[2]);
                case "share" -> {
                    grow(c[3], 4 * (c[4] + c[5]));
                    System.arraycopy(cells[c[1]], 4 * c[2], cells[c[3]], 4 * c[4], 4 * c[5]);
                }
                case "exchange" -> {
                    exchange(c, 0, answer);
                    done = answer;
                    log = answer < c[5] ? c : null;
                }
                case "mount" -> {
                    exchange(log, c[1] == 1 ? done : 0, c[1] == 1 ? log[5] : done);
                    log = null;
                }
                default -> {
                    // The others change no cell.
                }
            }
        }

        private void grow(int f, int size) {
            cells[f] = Arrays.copyOf(cells[f], Math.max(size, cells[f].length));
        }

        private int[] joined(int f, int end, int zeros, int from) {
            int[] row = Arrays.copyOf(cells[f], end + zeros + cells[f].length - from);
            Arrays.fill(row, end, end + zeros, 0);
            System.arraycopy(cells[f], from, row, end + zeros, cells[f].length - from);
            return row;
        }

        private void exchange(int[] c, int from, int end) {
            for (int i = 4 * from; i < 4 * end; i++) {
                int one = cells[c[1]][4 * c[2] + i];
                cells[c[1]][4 * c[2] + i] = cells[c[3]][4 * c[4] + i];
                cells[c[3]][4 * c[4] + i] = one;
            }
        }
    }
}
