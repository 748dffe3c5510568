import java.util.Arrays;

/**
 * Ranges from end to end: each number that a call takes goes from below its range to above it, with the least and the
 * greatest int, for every SIZE that matters; what is due is reckoned from the document's sentence alone.
 */
public final class SweepTest {
    private static final int[] CELLS = numbers(-2, 98);
    private static final int[] PLACES = numbers(-2, 26);
    private static final int[] FILES = numbers(-2, 5);
    private static int asked = 0;
    private static int wrong = 0;

    private SweepTest() {
    }

    public static void main(String[] args) {
        unknownFiles();
        reads();
        writes();
        values();
        cuts();
        punches();
        collapses();
        inserts();
        shares();
        sharesInOneFile();
        unshares();
        failures();
        exchanges();
        exchangesInOneFile();
        mounts();
        tells();
        seeks();
        System.out.println(asked + " answers asked, " + wrong + " not as due");
        if (wrong != 0) {
            System.exit(1);
        }
    }

    /** All from first to last, and the ends of int with their neighbours. */
    private static int[] numbers(int first, int last) {
        int[] row = new int[last - first + 5];
        for (int i = first; i <= last; i++) {
            row[i - first] = i;
        }
        row[row.length - 4] = Integer.MIN_VALUE;
        row[row.length - 3] = Integer.MIN_VALUE + 1;
        row[row.length - 2] = Integer.MAX_VALUE - 1;
        row[row.length - 1] = Integer.MAX_VALUE;
        return row;
    }

    private static void due(int got, int want, String call, int... arguments) {
        asked++;
        if (got != want) {
            wrong++;
            if (wrong <= 20) {
                System.out.println(call + Arrays.toString(arguments) + " answered " + got + ", due is " + want);
            }
        }
    }

    private static boolean in(long value, long least, long most) {
        return value >= least && value <= most;
    }

    private static CutFiles files(int sizeOf0, int sizeOf1) {
        CutFiles x = new CutFiles();
        if (sizeOf0 > 0) {
            x.write(0, 0, sizeOf0, 1);
        }
        if (sizeOf1 > 0) {
            x.write(1, 0, sizeOf1, 2);
        }
        return x;
    }

    private static int placesOf(int size) {
        return (size + 3) / 4;
    }

    private static void unknownFiles() {
        for (int f : FILES) {
            boolean known = in(f, 0, 3);
            CutFiles x = new CutFiles();
            due(x.read(f, 0), known ? -2 : -1, "read of file", f);
            due(x.write(f, 0, 8, 1), known ? 8 : -1, "write to file", f);
            due(x.punch(f, 0, 1), known ? 0 : -1, "punch in file", f);
            due(x.cut(f, 8), known ? 8 : -1, "cut of file", f);
            due(x.collapse(f, 0, 1), known ? 4 : -1, "collapse in file", f);
            due(x.insert(f, 0, 1), known ? 8 : -1, "insert in file", f);
            due(x.unshare(f, 0, 24), known ? 0 : -1, "unshare of file", f);
            due(x.ofFile(f, 0), known ? 8 : -1, "ofFile", f);
            due(x.block(f, 0), known ? -9 : -1, "block of file", f);
            due(x.piece(f, 0, 0), known ? 1 : -1, "piece of file", f);
            due(x.seek(f, 0, true), known ? 4 : -1, "seek in file", f);
            for (int g : FILES) {
                CutFiles y = new CutFiles();
                for (int h = 0; h < 4; h++) {
                    y.cut(h, 8);
                }
                int done = known && in(g, 0, 3) ? 1 : -1;
                due(y.share(f, 0, g, 1, 1), done == 1 ? 8 : -1, "share of files", f, g);
                due(y.exchange(f, 0, g, 1, 1), done, "exchange of files", f, g);
            }
        }
    }

    private static void reads() {
        for (int size = 0; size <= 96; size++) {
            CutFiles x = files(size, 0);
            for (int i : CELLS) {
                due(x.read(0, i), in(i, 0, size - 1) ? 1 : -2, "size, read at", size, i);
            }
        }
    }

    private static void writes() {
        for (int at : CELLS) {
            for (int n : CELLS) {
                boolean inside = in(at, 0, 95) && in(n, 1, 96L - at);
                CutFiles x = new CutFiles();
                due(x.write(3, at, n, 9), inside ? at + n : -2, "write at, n", at, n);
                due(x.ofFile(3, 1), inside ? (at + n - 1) / 4 - at / 4 + 1 : 0, "write at, n: places", at, n);
                CutFiles full = files(96, 0);
                due(full.write(0, at, n, 9), inside ? 96 : -2, "full, write at, n", at, n);
            }
        }
    }

    private static void values() {
        for (int v : numbers(-2, 258)) {
            CutFiles x = new CutFiles();
            due(x.write(0, 0, 1, v), in(v, 0, 255) ? 1 : -2, "write value", v);
            due(x.read(0, 0), in(v, 0, 255) ? v : -2, "read value", v);
        }
    }

    private static void cuts() {
        for (int old = 0; old <= 96; old++) {
            for (int size : CELLS) {
                CutFiles x = files(old, 0);
                boolean inside = in(size, 0, 96);
                int then = inside ? size : old;
                due(x.cut(0, size), inside ? old : -2, "size, cut to", old, size);
                due(x.ofFile(0, 0), then, "size, cut to: size", old, size);
                due(x.ofFile(0, 1), placesOf(Math.min(old, then)), "size, cut to: places", old, size);
                if (inside) {
                    x.cut(0, 96);
                    int last = size == 96 && old == 96 ? 1 : 0;
                    due(x.read(0, Math.min(95, size)), last, "size, cut to: behind", old, size);
                }
            }
        }
    }

    private static void punches() {
        for (int size = 0; size <= 96; size++) {
            for (int at : CELLS) {
                for (int n : CELLS) {
                    boolean inside = in(at, 0, 95) && in(n, 1, 96L - at);
                    int gone = 0;
                    for (int p = 0; inside && p < placesOf(size); p++) {
                        gone += 4 * p >= at && Math.min(4 * p + 4, size) <= at + n ? 1 : 0;
                    }
                    CutFiles x = files(size, 0);
                    due(x.punch(0, at, n), inside ? gone : -2, "size, punch at, n", size, at, n);
                    due(x.many(0), 48 - placesOf(size) + gone, "size, punch at, n: free", size, at, n);
                }
            }
        }
    }

    private static void collapses() {
        for (int size = 0; size <= 96; size++) {
            for (int p : PLACES) {
                for (int n : PLACES) {
                    int want = size - 4 * n;
                    if (!in(p, 0, 23) || !in(n, 1, 24L - p)) {
                        want = -2;
                    } else if (size <= 4 * (p + n)) {
                        want = -3;
                    }
                    due(files(size, 0).collapse(0, p, n), want, "size, collapse p, n", size, p, n);
                }
            }
        }
    }

    private static void inserts() {
        for (int size = 0; size <= 96; size++) {
            for (int p : PLACES) {
                for (int n : PLACES) {
                    int want = size + 4 * n;
                    if (!in(p, 0, 23) || !in(n, 1, 24)) {
                        want = -2;
                    } else if (size <= 4 * p) {
                        want = -3;
                    } else if (want > 96) {
                        want = -4;
                    }
                    due(files(size, 0).insert(0, p, n), want, "size, insert p, n", size, p, n);
                }
            }
        }
    }

    private static boolean isRangeOfBoth(int p, int q, int n) {
        return in(p, 0, 23) && in(q, 0, 23) && in(n, 1, 24L - Math.max(p, q));
    }

    private static void shares() {
        int[] sizes = {0, 1, 3, 4, 5, 47, 48, 49, 91, 92, 93, 95, 96};
        for (int size : sizes) {
            for (int p : PLACES) {
                for (int q : PLACES) {
                    for (int n : PLACES) {
                        int want = Math.max(50, 4 * (q + n));
                        if (!isRangeOfBoth(p, q, n)) {
                            want = -2;
                        } else if (4 * (p + n) > size) {
                            want = -3;
                        }
                        due(files(size, 50).share(0, p, 1, q, n), want, "size, share p, q, n", size, p, q, n);
                    }
                }
            }
        }
    }

    private static boolean meet(int p, int q, int n) {
        return Math.abs(p - q) < n;
    }

    private static void sharesInOneFile() {
        for (int size : new int[] {47, 48, 96}) {
            for (int p : PLACES) {
                for (int q : PLACES) {
                    for (int n : PLACES) {
                        int want = Math.max(size, 4 * (q + n));
                        if (!isRangeOfBoth(p, q, n)) {
                            want = -2;
                        } else if (4 * (p + n) > size || meet(p, q, n)) {
                            want = -3;
                        }
                        int got = files(size, 0).share(0, p, 0, q, n);
                        due(got, want, "size, share in one file p, q, n", size, p, q, n);
                    }
                }
            }
        }
    }

    private static void unshares() {
        for (int free = 0; free <= 24; free++) {
            for (int p : PLACES) {
                for (int n : PLACES) {
                    // File 0 has 24 blocks, all shared with file 2; file 1 has what is not to be free.
                    CutFiles x = files(96, 96 - 4 * free);
                    x.share(0, 0, 2, 0, 24);
                    int want = n;
                    if (!in(p, 0, 23) || !in(n, 1, 24L - p)) {
                        want = -2;
                    } else if (n > free) {
                        want = -6;
                    }
                    due(x.unshare(2, p, n), want, "free, unshare p, n", free, p, n);
                    due(x.many(0), want > 0 ? free - n : free, "free, unshare p, n: free", free, p, n);
                }
            }
        }
    }

    private static void failures() {
        for (int k : numbers(-12, 26)) {
            CutFiles x = new CutFiles();
            boolean inside = k == -9 || in(k, 0, 23);
            x.failure(7);
            due(x.failure(k), inside ? 7 : -2, "failure", k);
            due(x.failure(-9), inside ? k : 7, "failure, then", k);
        }
    }

    private static void exchanges() {
        int[][] sizes = {{96, 96}, {96, 47}, {47, 96}, {96, 48}, {48, 96}, {4, 3}, {0, 96}, {96, 0}};
        for (int[] two : sizes) {
            for (int p : PLACES) {
                for (int q : PLACES) {
                    for (int n : PLACES) {
                        int want = n;
                        if (!isRangeOfBoth(p, q, n)) {
                            want = -2;
                        } else if (4 * (p + n) > two[0] || 4 * (q + n) > two[1]) {
                            want = -3;
                        }
                        int got = files(two[0], two[1]).exchange(0, p, 1, q, n);
                        due(got, want, "sizes, exchange p, q, n", two[0], two[1], p, q, n);
                    }
                }
            }
        }
    }

    private static void exchangesInOneFile() {
        for (int size : new int[] {47, 48, 96}) {
            for (int p : PLACES) {
                for (int q : PLACES) {
                    for (int n : PLACES) {
                        int want = n;
                        if (!isRangeOfBoth(p, q, n)) {
                            want = -2;
                        } else if (4 * (Math.max(p, q) + n) > size || meet(p, q, n)) {
                            want = -3;
                        }
                        int got = files(size, 0).exchange(0, p, 0, q, n);
                        due(got, want, "size, exchange in one file p, q, n", size, p, q, n);
                    }
                }
            }
        }
    }

    private static void mounts() {
        for (int k = -1; k < 24; k++) {
            for (int n = 1; n <= 24; n++) {
                mount(k, n, true);
                mount(k, n, false);
            }
        }
    }

    /** A failure at k (-1: none) in an exchange of n places of two full files, then mounted. */
    private static void mount(int k, int n, boolean forward) {
        CutFiles x = files(96, 96);
        if (k >= 0) {
            x.failure(k);
        }
        boolean down = k >= 0 && k < n;
        int done = down ? k : n;
        due(x.exchange(0, 0, 1, 0, n), done, "failure, exchange n", k, n);
        due(x.many(4), down ? 1 : 0, "failure, exchange n: down", k, n);
        due(x.many(5), n - done, "failure, exchange n: to do", k, n);
        exchanged(x, done, "failure, exchange n", k, n);
        due(x.mount(forward), !down ? -3 : forward ? n - k : k, "failure, exchange n: mount", k, n);
        exchanged(x, down && !forward ? 0 : n, "failure, exchange n: mounted", k, n);
        due(x.many(4) + x.many(5), 0, "failure, exchange n: mounted", k, n);
        due(x.failure(-9), -9, "failure, exchange n: failure then", k, n);
    }

    private static void exchanged(CutFiles x, int steps, String call, int k, int n) {
        for (int p = 0; p < 24; p++) {
            due(x.block(0, p), p < steps ? 24 + p : p, call, k, n, p);
            due(x.block(1, p), p < steps ? p : 24 + p, call, k, n, p);
        }
    }

    private static void tells() {
        CutFiles x = files(96, 96);
        for (int number : numbers(-12, 50)) {
            due(x.ofFile(0, number), in(number, 0, 3) ? new int[] {96, 24, 0, 1}[number] : -2, "ofFile what", number);
            due(x.block(1, number), in(number, 0, 23) ? 24 + number : -2, "block", number);
            due(x.count(number), in(number, 0, 47) ? 1 : -2, "count", number);
            due(x.many(number), in(number, 0, 5) ? new int[] {0, 0, 0, 1, 0, 0}[number] : -2, "many", number);
        }
        for (int k : numbers(-12, 50)) {
            CutFiles y = files(96, 0);
            for (int what : numbers(-3, 7)) {
                int piece = k == 0 && in(what, 0, 2) ? new int[] {0, 0, 24}[what] : -9;
                due(y.piece(0, k, what), in(k, 0, 23) && in(what, 0, 2) ? piece : -2, "piece", k, what);
                int range = k == 0 && in(what, 0, 4) ? new int[] {24, 24, 0, 24, 1}[what] : -9;
                due(y.range(k, what), in(k, 0, 47) && in(what, 0, 4) ? range : -2, "range", k, what);
            }
        }
    }

    private static void seeks() {
        for (int size = 0; size <= 96; size++) {
            CutFiles data = files(size, 0);
            CutFiles hole = new CutFiles();
            hole.cut(0, size);
            for (int at : CELLS) {
                boolean inside = in(at, 0, 96);
                due(data.seek(0, at, true), !inside ? -2 : at < size ? at : -9, "size, seek data", size, at);
                due(data.seek(0, at, false), !inside ? -2 : Math.max(size, at), "size, seek a hole, none", size, at);
                due(hole.seek(0, at, false), !inside ? -2 : at, "size, seek a hole", size, at);
                due(hole.seek(0, at, true), !inside ? -2 : -9, "size, seek data, none", size, at);
            }
        }
    }
}
