import java.util.Arrays;

/** Each promise by hand, in longer runs: ordinary inputs, edges, wrong inputs. */
public final class PromiseTest {
    private static final int UNKNOWN = -1, OUTSIDE = -2, STATE = -3, FULL = -4, SPENT = -6, NONE = -9;
    private static final int LOW = Integer.MIN_VALUE, HIGH = Integer.MAX_VALUE;
    private static int wrong = 0;

    private static void due(String call, Object got, Object want) {
        if (!got.equals(want)) {
            wrong++;
            System.out.println(call + " answered " + got + ", due is " + want);
        }
    }

    public static void main(String[] args) {
        newObject();
        read();
        write();
        writeOwns();
        getting();
        cut();
        cutOwns();
        punch();
        punchOwns();
        collapse();
        insert();
        share();
        unshare();
        failure();
        exchange();
        exchangeInOneFile();
        mount();
        downRefuses();
        ofFile();
        block();
        piece();
        seek();
        count();
        range();
        many();
        System.out.println(wrong == 0 ? "all promises are kept" : wrong + " answers are not as due");
        if (wrong != 0) {
            System.exit(1);
        }
    }

    // How a file lies: its size, its blocks up to the last ('.' is a hole), its cells.

    private static String places(CutFiles x, int f) {
        StringBuilder text = new StringBuilder();
        StringBuilder holes = new StringBuilder();
        for (int p = 0; p < 24; p++) {
            int b = x.block(f, p);
            if (b == NONE) {
                holes.append(" .");
            } else {
                text.append(holes).append(' ').append(b);
                holes.setLength(0);
            }
        }
        return x.ofFile(f, 0) + ":" + text;
    }

    private static String cells(CutFiles x, int f, int from, int end) {
        int[] row = new int[end - from];
        for (int i = from; i < end; i++) {
            row[i - from] = x.read(f, i);
        }
        return Arrays.toString(row);
    }

    /** Files 0 and 1 have every block of the disk. */
    private static CutFiles fullDisk() {
        CutFiles x = new CutFiles();
        due("write(0, 0, 96, 1)", x.write(0, 0, 96, 1), 96);
        due("write(1, 0, 96, 2)", x.write(1, 0, 96, 2), 96);
        return x;
    }

    private static void newObject() {
        CutFiles x = new CutFiles();
        for (int f = 0; f < 4; f++) {
            due("new: places of " + f, places(x, f), "0:");
            due("new: pieces of " + f, x.ofFile(f, 3), 0);
        }
        for (int b = 0; b < 48; b++) {
            due("new: count(" + b + ")", x.count(b), 0);
        }
        due("new: free", x.many(0), 48);
        due("new: down", x.many(4), 0);
        due("new: failure", x.failure(NONE), NONE);
    }

    private static void read() {
        CutFiles x = new CutFiles();
        x.write(3, 3, 6, 255);
        due("read: cells", cells(x, 3, 0, 9), "[0, 0, 0, 255, 255, 255, 255, 255, 255]");
        due("read(3, 9)", x.read(3, 9), OUTSIDE);
        due("read(3, -1)", x.read(3, -1), OUTSIDE);
        due("read(3, LOW)", x.read(3, LOW), OUTSIDE);
        due("read(3, HIGH)", x.read(3, HIGH), OUTSIDE);
        due("read(2, 0)", x.read(2, 0), OUTSIDE);
        due("read(-1, 0)", x.read(-1, 0), UNKNOWN);
        due("read(4, 0)", x.read(4, 0), UNKNOWN);
        due("read(LOW, -1)", x.read(LOW, -1), UNKNOWN);
        due("read(HIGH, 0)", x.read(HIGH, 0), UNKNOWN);
        x.cut(3, 96);
        due("read(3, 95)", x.read(3, 95), 0);
        due("read(3, 96)", x.read(3, 96), OUTSIDE);
    }

    private static void write() {
        CutFiles x = new CutFiles();
        due("write(0, 5, 2, 7)", x.write(0, 5, 2, 7), 7);
        due("write: one place", places(x, 0), "7: . 0");
        due("write(0, 3, 2, 9)", x.write(0, 3, 2, 9), 7);
        due("write: a hole too", places(x, 0), "7: 1 0");
        due("write: cells", cells(x, 0, 0, 7), "[0, 0, 0, 9, 9, 7, 7]");
        due("write(0, 95, 1, 255)", x.write(0, 95, 1, 255), 96);
        due("write(1, 0, 96, 0)", x.write(1, 0, 96, 0), 96);
        due("write: zeros have blocks", x.ofFile(1, 1), 24);
        due("write(4, -1, 0, -1)", x.write(4, -1, 0, -1), UNKNOWN);
        due("write(-1, 0, 1, 1)", x.write(-1, 0, 1, 1), UNKNOWN);
        due("write(0, -1, 1, 1)", x.write(0, -1, 1, 1), OUTSIDE);
        due("write(0, 96, 1, 1)", x.write(0, 96, 1, 1), OUTSIDE);
        due("write(0, 0, 0, 1)", x.write(0, 0, 0, 1), OUTSIDE);
        due("write(0, 0, 97, 1)", x.write(0, 0, 97, 1), OUTSIDE);
        due("write(0, 95, 2, 1)", x.write(0, 95, 2, 1), OUTSIDE);
        due("write(0, 1, HIGH, 1)", x.write(0, 1, HIGH, 1), OUTSIDE);
        due("write(0, 1, LOW, 1)", x.write(0, 1, LOW, 1), OUTSIDE);
        due("write(0, 0, 1, -1)", x.write(0, 0, 1, -1), OUTSIDE);
        due("write(0, 0, 1, 256)", x.write(0, 0, 1, 256), OUTSIDE);
    }

    private static void writeOwns() {
        CutFiles x = new CutFiles();
        x.write(0, 0, 12, 1);
        x.share(0, 0, 1, 0, 3);
        due("write(1, 5, 1, 8)", x.write(1, 5, 1, 8), 12);
        due("write: own first", places(x, 1), "12: 0 3 2");
        due("write: what was there", cells(x, 1, 4, 8), "[1, 8, 1, 1]");
        due("write: the other's", cells(x, 0, 4, 8), "[1, 1, 1, 1]");
        due("write: count(1)", x.count(1), 1);
        due("write(0, 5, 1, 9)", x.write(0, 5, 1, 9), 12);
        due("write: not shared any more", places(x, 0), "12: 0 1 2");
        // One block twice in the range: both places get one, as the counts were ahead of it.
        CutFiles y = new CutFiles();
        y.write(0, 0, 4, 5);
        y.share(0, 0, 0, 1, 1);
        due("write(0, 3, 2, 6)", y.write(0, 3, 2, 6), 8);
        due("write: both own", places(y, 0), "8: 1 2");
        due("write: both kept", cells(y, 0, 0, 8), "[5, 5, 5, 6, 6, 5, 5, 5]");
        due("write: the old one is free", y.count(0), 0);
        // A block that was used once is clean in a hole.
        y.write(2, 1, 1, 3);
        due("write: clean", places(y, 2) + cells(y, 2, 0, 2), "2: 0[0, 3]");
        due("write(2, 95, 1, 1)", y.write(2, 95, 1, 1), 96);
        due("write: clean behind", cells(y, 2, 0, 4), "[0, 3, 0, 0]");
    }

    private static void getting() {
        CutFiles x = fullDisk();
        due("write(2, 0, 1, 3)", x.write(2, 0, 1, 3), SPENT);
        // Runs of 3 (2..4), 2 (8..9), 2 (12..13), 1 (20).
        x.punch(0, 8, 12);
        x.punch(0, 32, 8);
        x.punch(0, 48, 8);
        x.punch(0, 80, 4);
        due("write(2, 0, 36, 3)", x.write(2, 0, 36, 3), SPENT);
        due("write(2, 0, 8, 3)", x.write(2, 0, 8, 3), 8);
        due("got: the fewest that suffice, the first", places(x, 2), "8: 8 9");
        x.cut(2, 0);
        due("write(2, 0, 20, 3)", x.write(2, 0, 20, 3), 20);
        due("got: the most, then likewise", places(x, 2), "20: 2 3 4 8 9");
        x.cut(2, 0);
        due("write(2, 0, 32, 3)", x.write(2, 0, 32, 3), 32);
        due("got: all", places(x, 2), "32: 2 3 4 8 9 12 13 20");
        x.cut(2, 0);
        due("write(2, 0, 16, 3)", x.write(2, 0, 16, 3), 16);
        due("got: a rest of one", places(x, 2), "16: 2 3 4 20");
        due("got: no more than that", x.many(0), 4);
        x.cut(2, 0);
        due("write(2, 1, 1, 3)", x.write(2, 1, 1, 3), 2);
        due("got: one", places(x, 2), "2: 20");
        // Blocks that come free by owning are not got by it.
        CutFiles y = fullDisk();
        y.punch(0, 4, 4);
        y.share(0, 0, 0, 1, 1);
        due("unshare(0, 0, 2)", y.unshare(0, 0, 2), SPENT);
        y.punch(1, 0, 4);
        due("write(0, 0, 8, 4)", y.write(0, 0, 8, 4), 96);
        due("got: free ahead of it", y.block(0, 0) + " " + y.block(0, 1), "1 24");
    }

    private static void cut() {
        CutFiles x = new CutFiles();
        due("cut(0, 96)", x.cut(0, 96), 0);
        due("cut: more, holes", places(x, 0), "96:");
        due("cut(0, 0)", x.cut(0, 0), 96);
        x.write(0, 0, 16, 5);
        due("cut(0, 16)", x.cut(0, 16), 16);
        due("cut(0, 9)", x.cut(0, 9), 16);
        due("cut: less", places(x, 0), "9: 0 1 2");
        due("cut(0, 12)", x.cut(0, 12), 9);
        due("cut: zeros behind", cells(x, 0, 7, 12), "[5, 5, 0, 0, 0]");
        due("cut(0, 8)", x.cut(0, 8), 12);
        due("cut: at a place", places(x, 0), "8: 0 1");
        due("cut(0, 6)", x.cut(0, 6), 8);
        due("cut(0, 7)", x.cut(0, 7), 6);
        due("cut: one more", cells(x, 0, 4, 7), "[5, 5, 0]");
        due("cut(0, 97)", x.cut(0, 97), OUTSIDE);
        due("cut(0, -1)", x.cut(0, -1), OUTSIDE);
        due("cut(0, LOW)", x.cut(0, LOW), OUTSIDE);
        due("cut(0, HIGH)", x.cut(0, HIGH), OUTSIDE);
        due("cut(4, 97)", x.cut(4, 97), UNKNOWN);
        due("cut(-1, 0)", x.cut(-1, 0), UNKNOWN);
    }

    private static void cutOwns() {
        CutFiles x = new CutFiles();
        x.write(0, 0, 16, 5);
        x.share(0, 0, 1, 0, 4);
        due("cut(1, 6)", x.cut(1, 6), 16);
        due("cut: own first", places(x, 1), "6: 0 4");
        due("cut: the other's", places(x, 0) + cells(x, 0, 4, 8), "16: 0 1 2 3[5, 5, 5, 5]");
        CutFiles y = fullDisk();
        y.share(0, 0, 2, 0, 3);
        due("cut(2, 5)", y.cut(2, 5), SPENT);
        due("cut(2, 4)", y.cut(2, 4), 12);
        due("cut: at a place none is needed", places(y, 2), "4: 0");
        due("cut(0, 10)", y.cut(0, 10), 96);
        // The block of a place behind comes free only then: it is not got.
        CutFiles z = fullDisk();
        z.share(0, 0, 2, 0, 1);
        due("cut(0, 2)", z.cut(0, 2), SPENT);
    }

    private static void punch() {
        CutFiles x = new CutFiles();
        x.write(0, 0, 22, 5);
        due("punch(0, 3, 10)", x.punch(0, 3, 10), 2);
        due("punch: places", places(x, 0), "22: 0 . . 3 4 5");
        due("punch: cells", cells(x, 0, 0, 16), "[5, 5, 5, 0, 0, 0, 0, 0, 0, 0, 0, 0, 0, 5, 5, 5]");
        due("punch: again", x.punch(0, 3, 10), 0);
        due("punch(0, 20, 1)", x.punch(0, 20, 1), 0);
        due("punch: a part of the last", cells(x, 0, 20, 22), "[0, 5]");
        due("punch(0, 20, 2)", x.punch(0, 20, 2), 1);
        due("punch: all below size", places(x, 0), "22: 0 . . 3 4");
        due("punch(0, 22, 74)", x.punch(0, 22, 74), 0);
        due("punch(0, 95, 1)", x.punch(0, 95, 1), 0);
        due("punch(0, 18, 78)", x.punch(0, 18, 78), 0);
        due("punch: up to size", cells(x, 0, 16, 22), "[5, 5, 0, 0, 0, 0]");
        due("punch(0, 0, 96)", x.punch(0, 0, 96), 3);
        due("punch: size stays", places(x, 0), "22:");
        due("punch(4, -1, 0)", x.punch(4, -1, 0), UNKNOWN);
        due("punch(-1, 0, 1)", x.punch(-1, 0, 1), UNKNOWN);
        due("punch(0, -1, 1)", x.punch(0, -1, 1), OUTSIDE);
        due("punch(0, 96, 1)", x.punch(0, 96, 1), OUTSIDE);
        due("punch(0, 0, 0)", x.punch(0, 0, 0), OUTSIDE);
        due("punch(0, 0, 97)", x.punch(0, 0, 97), OUTSIDE);
        due("punch(0, 90, 7)", x.punch(0, 90, 7), OUTSIDE);
        due("punch(0, 90, HIGH)", x.punch(0, 90, HIGH), OUTSIDE);
        due("punch(0, 0, LOW)", x.punch(0, 0, LOW), OUTSIDE);
    }

    private static void punchOwns() {
        CutFiles x = new CutFiles();
        x.write(0, 0, 20, 5);
        x.share(0, 0, 1, 0, 5);
        due("punch(1, 2, 15)", x.punch(1, 2, 15), 3);
        due("punch: both ends own", places(x, 1), "20: 5 . . . 6");
        due("punch: cells", cells(x, 1, 0, 4) + cells(x, 1, 16, 20), "[5, 5, 0, 0][0, 5, 5, 5]");
        due("punch: the other's", cells(x, 0, 0, 4) + cells(x, 0, 16, 20), "[5, 5, 5, 5][5, 5, 5, 5]");
        due("punch: the other's between", cells(x, 0, 4, 8), "[5, 5, 5, 5]");
        due("punch(1, 5, 2)", x.punch(1, 5, 2), 0);
        due("punch: a part of a hole", places(x, 1), "20: 5 . . . 6");
        // Owned ahead of all else: what is punched is not free yet, and is shared still.
        CutFiles y = fullDisk();
        y.punch(0, 4, 4);
        y.share(0, 0, 0, 1, 1);
        y.punch(1, 0, 4);
        due("punch(0, 2, 6)", y.punch(0, 2, 6), 1);
        due("punch: own ahead", y.block(0, 0) + " " + y.block(0, 1) + " " + y.count(0), "1 -9 0");
        CutFiles z = fullDisk();
        z.share(0, 0, 2, 0, 2);
        due("punch(0, 2, 94)", z.punch(0, 2, 94), SPENT);
        due("punch(0, 4, 92)", z.punch(0, 4, 92), 23);
    }

    private static void collapse() {
        CutFiles x = new CutFiles();
        x.write(0, 0, 22, 5);
        x.write(0, 8, 1, 6);
        due("collapse(0, 1, 1)", x.collapse(0, 1, 1), 18);
        due("collapse: places", places(x, 0), "18: 0 2 3 4 5");
        due("collapse: cells", cells(x, 0, 3, 6), "[5, 6, 5]");
        due("collapse: free", x.count(1), 0);
        due("collapse(0, 0, 5)", x.collapse(0, 0, 5), STATE);
        due("collapse(0, 4, 1)", x.collapse(0, 4, 1), STATE);
        due("collapse(0, 23, 1)", x.collapse(0, 23, 1), STATE);
        due("collapse(0, 0, 24)", x.collapse(0, 0, 24), STATE);
        due("collapse(0, 2, 2)", x.collapse(0, 2, 2), 10);
        due("collapse: the last part", places(x, 0), "10: 0 2 5");
        due("collapse(0, 0, 2)", x.collapse(0, 0, 2), 2);
        due("collapse: one part", places(x, 0), "2: 5");
        x.cut(0, 8);
        due("collapse(0, 1, 1)", x.collapse(0, 1, 1), STATE);
        due("collapse(0, 0, 1)", x.collapse(0, 0, 1), 4);
        x.cut(0, 96);
        x.write(0, 92, 4, 7);
        due("collapse(0, 0, 23)", x.collapse(0, 0, 23), 4);
        due("collapse: the last place", cells(x, 0, 0, 4), "[7, 7, 7, 7]");
        due("collapse(4, 24, 0)", x.collapse(4, 24, 0), UNKNOWN);
        due("collapse(-1, 0, 1)", x.collapse(-1, 0, 1), UNKNOWN);
        due("collapse(0, -1, 1)", x.collapse(0, -1, 1), OUTSIDE);
        due("collapse(0, 24, 1)", x.collapse(0, 24, 1), OUTSIDE);
        due("collapse(0, 0, 0)", x.collapse(0, 0, 0), OUTSIDE);
        due("collapse(0, 1, 24)", x.collapse(0, 1, 24), OUTSIDE);
        due("collapse(0, 1, HIGH)", x.collapse(0, 1, HIGH), OUTSIDE);
        due("collapse(0, LOW, 1)", x.collapse(0, LOW, 1), OUTSIDE);
    }

    private static void insert() {
        CutFiles x = new CutFiles();
        x.write(0, 0, 10, 5);
        due("insert(0, 1, 2)", x.insert(0, 1, 2), 18);
        due("insert: places", places(x, 0), "18: 0 . . 1 2");
        due("insert: cells", cells(x, 0, 3, 13), "[5, 0, 0, 0, 0, 0, 0, 0, 0, 5]");
        due("insert(0, 5, 1)", x.insert(0, 5, 1), STATE);
        due("insert(0, 5, 24)", x.insert(0, 5, 24), STATE);
        due("insert(0, 4, 1)", x.insert(0, 4, 1), 22);
        due("insert: ahead of the last", places(x, 0), "22: 0 . . 1 . 2");
        due("insert(0, 0, 19)", x.insert(0, 0, 19), FULL);
        due("insert(0, 0, 18)", x.insert(0, 0, 18), 94);
        due("insert(0, 0, 1)", x.insert(0, 0, 1), FULL);
        due("insert(0, 0, 24)", x.insert(0, 0, 24), FULL);
        due("insert: all of it", x.block(0, 18) + " " + x.block(0, 21) + " " + x.block(0, 23), "0 1 2");
        x.write(1, 0, 4, 6);
        due("insert(1, 0, 23)", x.insert(1, 0, 23), 96);
        due("insert: to the end", x.block(1, 23) + " " + cells(x, 1, 92, 96), "3 [6, 6, 6, 6]");
        due("insert(1, 23, 1)", x.insert(1, 23, 1), FULL);
        due("insert(2, 0, 1)", x.insert(2, 0, 1), STATE);
        due("insert(4, 24, 0)", x.insert(4, 24, 0), UNKNOWN);
        due("insert(-1, 0, 1)", x.insert(-1, 0, 1), UNKNOWN);
        due("insert(0, -1, 1)", x.insert(0, -1, 1), OUTSIDE);
        due("insert(0, 24, 1)", x.insert(0, 24, 1), OUTSIDE);
        due("insert(0, 0, 0)", x.insert(0, 0, 0), OUTSIDE);
        due("insert(0, 0, 25)", x.insert(0, 0, 25), OUTSIDE);
        due("insert(0, 0, HIGH)", x.insert(0, 0, HIGH), OUTSIDE);
        due("insert(0, 0, LOW)", x.insert(0, 0, LOW), OUTSIDE);
    }

    private static void share() {
        CutFiles x = new CutFiles();
        x.write(0, 0, 4, 5);
        x.write(0, 8, 4, 6);
        x.write(1, 0, 14, 7);
        due("share(0, 0, 1, 1, 3)", x.share(0, 0, 1, 1, 3), 16);
        due("share: holes too", places(x, 1), "16: 2 0 . 1");
        due("share: count", x.count(0) + " " + x.count(3) + " " + x.count(5), "2 0 0");
        due("share: cells", cells(x, 1, 2, 16), "[7, 7, 5, 5, 5, 5, 0, 0, 0, 0, 6, 6, 6, 6]");
        due("share(0, 0, 1, 0, 1)", x.share(0, 0, 1, 0, 1), 16);
        due("share(0, 2, 0, 3, 1)", x.share(0, 2, 0, 3, 1), 16);
        due("share: in one file", places(x, 0), "16: 0 . 1 1");
        due("share(0, 1, 0, 1, 1)", x.share(0, 1, 0, 1, 1), STATE);
        due("share(0, 0, 0, 1, 2)", x.share(0, 0, 0, 1, 2), STATE);
        due("share(0, 1, 0, 0, 2)", x.share(0, 1, 0, 0, 2), STATE);
        due("share(0, 2, 0, 0, 2)", x.share(0, 2, 0, 0, 2), 16);
        due("share: side by side", places(x, 0), "16: 1 1 1 1");
        x.cut(0, 15);
        due("share(0, 3, 2, 0, 1)", x.share(0, 3, 2, 0, 1), STATE);
        due("share(0, 0, 2, 20, 3)", x.share(0, 0, 2, 20, 3), 92);
        due("share(0, 0, 2, 20, 4)", x.share(0, 0, 2, 20, 4), STATE);
        due("share(0, 0, 3, 21, 3)", x.share(0, 0, 3, 21, 3), 96);
        due("share(0, 0, 2, 21, 4)", x.share(0, 0, 2, 21, 4), OUTSIDE);
        due("share(2, 21, 0, 0, 4)", x.share(2, 21, 0, 0, 4), OUTSIDE);
        due("share(0, 0, 1, 0, 0)", x.share(0, 0, 1, 0, 0), OUTSIDE);
        due("share(0, 1, 1, 1, HIGH)", x.share(0, 1, 1, 1, HIGH), OUTSIDE);
        due("share(0, -1, 1, 0, 1)", x.share(0, -1, 1, 0, 1), OUTSIDE);
        due("share(0, 24, 1, 0, 1)", x.share(0, 24, 1, 0, 1), OUTSIDE);
        due("share(0, 0, 1, -1, 1)", x.share(0, 0, 1, -1, 1), OUTSIDE);
        due("share(0, 0, 1, 24, 1)", x.share(0, 0, 1, 24, 1), OUTSIDE);
        due("share(4, 0, 1, 0, 1)", x.share(4, 0, 1, 0, 1), UNKNOWN);
        due("share(0, 24, 4, 0, 1)", x.share(0, 24, 4, 0, 1), UNKNOWN);
        due("share(0, 0, -1, 0, 1)", x.share(0, 0, -1, 0, 1), UNKNOWN);
        // It needs no free block.
        CutFiles y = fullDisk();
        due("share: on a full disk", y.share(0, 0, 2, 0, 24), 96);
    }

    private static void unshare() {
        CutFiles x = new CutFiles();
        x.write(0, 0, 12, 5);
        x.share(0, 0, 1, 1, 3);
        x.write(1, 0, 4, 6);
        due("unshare(1, 0, 2)", x.unshare(1, 0, 2), 1);
        due("unshare: places", places(x, 1), "16: 3 4 1 2");
        due("unshare: cells", cells(x, 1, 3, 9), "[6, 5, 5, 5, 5, 5]");
        due("unshare(0, 0, 24)", x.unshare(0, 0, 24), 2);
        due("unshare: places", places(x, 0), "12: 0 5 6");
        due("unshare(0, 0, 24)", x.unshare(0, 0, 24), 0);
        due("unshare(2, 23, 1)", x.unshare(2, 23, 1), 0);
        x.share(0, 0, 0, 5, 1);
        due("unshare: twice the same", x.unshare(0, 0, 24), 2);
        due("unshare: places", places(x, 0), "24: 7 5 6 . . 8");
        due("unshare: free", x.count(0), 0);
        CutFiles y = fullDisk();
        y.share(0, 0, 2, 0, 2);
        y.cut(1, 92);
        due("unshare(2, 0, 24)", y.unshare(2, 0, 24), SPENT);
        due("unshare(2, 1, 23)", y.unshare(2, 1, 23), 1);
        due("unshare: places", places(y, 2), "8: 0 47");
        due("unshare(4, 24, 0)", y.unshare(4, 24, 0), UNKNOWN);
        due("unshare(-1, 0, 1)", y.unshare(-1, 0, 1), UNKNOWN);
        due("unshare(0, -1, 1)", y.unshare(0, -1, 1), OUTSIDE);
        due("unshare(0, 24, 1)", y.unshare(0, 24, 1), OUTSIDE);
        due("unshare(0, 0, 0)", y.unshare(0, 0, 0), OUTSIDE);
        due("unshare(0, 0, 25)", y.unshare(0, 0, 25), OUTSIDE);
        due("unshare(0, 23, 2)", y.unshare(0, 23, 2), OUTSIDE);
        due("unshare(0, 1, HIGH)", y.unshare(0, 1, HIGH), OUTSIDE);
    }

    private static void failure() {
        CutFiles x = new CutFiles();
        due("failure(0)", x.failure(0), NONE);
        due("failure(23)", x.failure(23), 0);
        for (int k : new int[] {-1, -8, -10, 24, LOW, HIGH}) {
            due("failure(" + k + ")", x.failure(k), OUTSIDE);
        }
        due("failure(NONE)", x.failure(NONE), 23);
        due("failure(2)", x.failure(2), NONE);
        x.write(0, 0, 8, 1);
        x.write(1, 0, 8, 2);
        due("exchange: refused", x.exchange(0, 0, 1, 0, 3), STATE);
        due("failure: stays", x.failure(2), 2);
        due("exchange(0, 0, 1, 0, 2)", x.exchange(0, 0, 1, 0, 2), 2);
        due("failure: not reached", x.many(4), 0);
        due("failure: NONE behind it", x.failure(1), NONE);
        due("exchange(0, 0, 1, 0, 2)", x.exchange(0, 0, 1, 0, 2), 1);
        due("failure(24), down", x.failure(24), OUTSIDE);
        due("failure(3), down", x.failure(3), STATE);
        due("failure(NONE), down", x.failure(NONE), STATE);
        x.mount(true);
        due("failure: NONE when mounted", x.failure(NONE), NONE);
    }

    private static void exchange() {
        CutFiles x = new CutFiles();
        x.write(0, 0, 14, 1);
        x.write(1, 4, 9, 2);
        due("exchange(0, 0, 1, 0, 3)", x.exchange(0, 0, 1, 0, 3), 3);
        due("exchange: places", places(x, 0) + " - " + places(x, 1), "14: . 4 5 3 - 13: 0 1 2 6");
        due("exchange: cells", cells(x, 0, 2, 6) + cells(x, 1, 2, 6), "[0, 0, 2, 2][1, 1, 1, 1]");
        due("exchange(0, 2, 1, 0, 1)", x.exchange(0, 2, 1, 0, 1), 1);
        due("exchange: other places", places(x, 0) + " - " + places(x, 1), "14: . 4 0 3 - 13: 5 1 2 6");
        x.write(3, 0, 4, 8);
        due("exchange(3, 0, 1, 1, 1)", x.exchange(3, 0, 1, 1, 1), 1);
        due("exchange: other files", places(x, 3) + " - " + places(x, 1), "4: 1 - 13: 5 7 2 6");
        due("exchange(0, 0, 1, 0, 4)", x.exchange(0, 0, 1, 0, 4), STATE);
        due("exchange(0, 3, 1, 0, 1)", x.exchange(0, 3, 1, 0, 1), STATE);
        due("exchange(0, 0, 1, 3, 1)", x.exchange(0, 0, 1, 3, 1), STATE);
        due("exchange(4, 24, 0, 0, 0)", x.exchange(4, 24, 0, 0, 0), UNKNOWN);
        due("exchange(0, 24, 4, 0, 0)", x.exchange(0, 24, 4, 0, 0), UNKNOWN);
        due("exchange(-1, 0, 0, 0, 1)", x.exchange(-1, 0, 0, 0, 1), UNKNOWN);
        due("exchange(0, 0, -1, 0, 1)", x.exchange(0, 0, -1, 0, 1), UNKNOWN);
        due("exchange(0, -1, 1, 0, 1)", x.exchange(0, -1, 1, 0, 1), OUTSIDE);
        due("exchange(0, 24, 1, 0, 1)", x.exchange(0, 24, 1, 0, 1), OUTSIDE);
        due("exchange(0, 0, 1, -1, 1)", x.exchange(0, 0, 1, -1, 1), OUTSIDE);
        due("exchange(0, 0, 1, 24, 1)", x.exchange(0, 0, 1, 24, 1), OUTSIDE);
        due("exchange(0, 0, 1, 0, 0)", x.exchange(0, 0, 1, 0, 0), OUTSIDE);
        due("exchange(0, 23, 1, 0, 2)", x.exchange(0, 23, 1, 0, 2), OUTSIDE);
        due("exchange(0, 0, 1, 23, 2)", x.exchange(0, 0, 1, 23, 2), OUTSIDE);
        due("exchange(0, 1, 1, 1, HIGH)", x.exchange(0, 1, 1, 1, HIGH), OUTSIDE);
        CutFiles y = fullDisk();
        due("exchange: all", y.exchange(0, 0, 1, 0, 24), 24);
        due("exchange: read(0, 95)", y.read(0, 95), 2);
    }

    private static void exchangeInOneFile() {
        CutFiles x = new CutFiles();
        x.write(0, 0, 16, 1);
        due("exchange(0, 0, 0, 2, 2)", x.exchange(0, 0, 0, 2, 2), 2);
        due("exchange: places", places(x, 0), "16: 2 3 0 1");
        due("exchange(0, 2, 0, 1, 1)", x.exchange(0, 2, 0, 1, 1), 1);
        due("exchange: places", places(x, 0), "16: 2 0 3 1");
        due("exchange(0, 0, 0, 1, 2)", x.exchange(0, 0, 0, 1, 2), STATE);
        due("exchange(0, 1, 0, 0, 2)", x.exchange(0, 1, 0, 0, 2), STATE);
        due("exchange(0, 1, 0, 1, 1)", x.exchange(0, 1, 0, 1, 1), STATE);
    }

    private static CutFiles downBehind(int steps) {
        CutFiles x = new CutFiles();
        x.write(0, 0, 16, 1);
        x.write(1, 0, 12, 2);
        x.failure(steps);
        due("exchange with failure " + steps, x.exchange(0, 1, 1, 0, 3), steps);
        due("many(4), down", x.many(4), 1);
        due("many(5), down", x.many(5), 3 - steps);
        return x;
    }

    private static void mount() {
        CutFiles x = downBehind(1);
        due("down: places", places(x, 0) + " - " + places(x, 1), "16: 0 4 2 3 - 12: 1 5 6");
        due("down: cells", cells(x, 0, 3, 9), "[1, 2, 2, 2, 2, 1]");
        due("mount(true)", x.mount(true), 2);
        due("mounted forward", places(x, 0) + " - " + places(x, 1), "16: 0 4 5 6 - 12: 1 2 3");
        due("many(4), mounted", x.many(4), 0);
        due("many(5), mounted", x.many(5), 0);
        due("mount(true), again", x.mount(true), STATE);
        due("write, mounted", x.write(0, 0, 1, 9), 16);
        x = downBehind(2);
        due("down: places", places(x, 0) + " - " + places(x, 1), "16: 0 4 5 3 - 12: 1 2 6");
        due("mount(false)", x.mount(false), 2);
        due("mounted backward", places(x, 0) + " - " + places(x, 1), "16: 0 1 2 3 - 12: 4 5 6");
        due("mount(false), again", x.mount(false), STATE);
        x = downBehind(0);
        due("down behind 0", places(x, 0) + " - " + places(x, 1), "16: 0 1 2 3 - 12: 4 5 6");
        due("mount(false), none done", x.mount(false), 0);
        due("many(4)", x.many(4), 0);
        x = downBehind(0);
        due("mount(true), none done", x.mount(true), 3);
        due("mounted forward from 0", places(x, 0) + " - " + places(x, 1), "16: 0 4 5 6 - 12: 1 2 3");
        CutFiles y = new CutFiles();
        due("mount(true), new", y.mount(true), STATE);
        due("mount(false), new", y.mount(false), STATE);
    }

    private static void downRefuses() {
        CutFiles x = downBehind(1);
        due("down: write", x.write(0, 0, 1, 1), STATE);
        due("down: cut", x.cut(0, 16), STATE);
        due("down: punch", x.punch(0, 0, 1), STATE);
        due("down: collapse", x.collapse(0, 0, 1), STATE);
        due("down: insert", x.insert(0, 0, 1), STATE);
        due("down: insert, full", x.insert(0, 0, 24), STATE);
        due("down: share", x.share(0, 0, 2, 0, 1), STATE);
        due("down: unshare", x.unshare(0, 0, 1), STATE);
        due("down: exchange", x.exchange(0, 0, 1, 0, 1), STATE);
        due("down: write, outside", x.write(0, 96, 1, 1), OUTSIDE);
        due("down: cut, unknown", x.cut(4, 0), UNKNOWN);
        due("down: unshare, outside", x.unshare(0, 24, 1), OUTSIDE);
        CutFiles y = fullDisk();
        y.failure(0);
        y.exchange(0, 0, 1, 0, 1);
        due("down: ahead of spent", y.write(2, 0, 1, 1), STATE);
    }

    private static void ofFile() {
        CutFiles x = new CutFiles();
        x.write(0, 0, 8, 1);
        x.write(0, 12, 7, 1);
        x.share(0, 0, 1, 0, 1);
        x.share(0, 0, 0, 6, 1);
        // 0 1 . 2 3 . 0
        due("ofFile(0, 0)", x.ofFile(0, 0), 28);
        due("ofFile(0, 1)", x.ofFile(0, 1), 5);
        due("ofFile(0, 2)", x.ofFile(0, 2), 2);
        due("ofFile(0, 3)", x.ofFile(0, 3), 3);
        due("ofFile(1, 2)", x.ofFile(1, 2), 1);
        x.cut(1, 0);
        due("ofFile: shared by two", x.ofFile(0, 2), 2);
        x.cut(0, 19);
        due("ofFile: shared no more", x.ofFile(0, 2), 0);
        due("ofFile(2, 0)", x.ofFile(2, 0), 0);
        due("ofFile(3, 1)", x.ofFile(3, 1), 0);
        due("ofFile(0, 4)", x.ofFile(0, 4), OUTSIDE);
        due("ofFile(0, -1)", x.ofFile(0, -1), OUTSIDE);
        due("ofFile(4, 4)", x.ofFile(4, 4), UNKNOWN);
        due("ofFile(-1, 0)", x.ofFile(-1, 0), UNKNOWN);
    }

    private static void block() {
        CutFiles x = new CutFiles();
        x.write(3, 92, 4, 1);
        due("block(3, 23)", x.block(3, 23), 0);
        due("block(3, 22)", x.block(3, 22), NONE);
        due("block(3, 24)", x.block(3, 24), OUTSIDE);
        due("block(3, -1)", x.block(3, -1), OUTSIDE);
        due("block(2, 24)", x.block(2, 24), OUTSIDE);
        due("block(4, 24)", x.block(4, 24), UNKNOWN);
        due("block(-1, 0)", x.block(-1, 0), UNKNOWN);
    }

    private static void piece() {
        CutFiles x = new CutFiles();
        x.write(0, 0, 20, 1);
        x.exchange(0, 1, 0, 2, 1);
        x.write(0, 92, 4, 1);
        // 0 2 1 3 4 .. 5: pieces 0; 2; 1; 3 4; 5
        int[][] pieces = {{0, 0, 1}, {1, 2, 1}, {2, 1, 1}, {3, 3, 2}, {23, 5, 1}};
        for (int k = 0; k < 24; k++) {
            for (int what = 0; what < 3; what++) {
                due("piece(0, " + k + ", " + what + ")", x.piece(0, k, what), k < 5 ? pieces[k][what] : NONE);
            }
        }
        // Blocks side by side with a hole between are two pieces; one file's end and the next's begin, too.
        CutFiles y = new CutFiles();
        y.write(1, 92, 4, 1);
        y.write(2, 0, 4, 1);
        y.write(2, 8, 4, 1);
        due("piece(1, 0, 2)", y.piece(1, 0, 2), 1);
        due("piece(2, 0, 0)", y.piece(2, 0, 0), 0);
        due("piece(2, 0, 2)", y.piece(2, 0, 2), 1);
        due("piece(2, 1, 0)", y.piece(2, 1, 0), 2);
        due("piece(2, 1, 1)", y.piece(2, 1, 1), 2);
        CutFiles z = fullDisk();
        due("piece: a whole file", z.piece(1, 0, 1) + " " + z.piece(1, 0, 2), "24 24");
        due("piece(0, 24, 0)", x.piece(0, 24, 0), OUTSIDE);
        due("piece(0, -1, 0)", x.piece(0, -1, 0), OUTSIDE);
        due("piece(0, 0, 3)", x.piece(0, 0, 3), OUTSIDE);
        due("piece(0, 0, -1)", x.piece(0, 0, -1), OUTSIDE);
        due("piece(0, 23, 3)", x.piece(0, 23, 3), OUTSIDE);
        due("piece(4, 24, 3)", x.piece(4, 24, 3), UNKNOWN);
        due("piece(-1, 0, 0)", x.piece(-1, 0, 0), UNKNOWN);
    }

    private static void seek() {
        CutFiles x = new CutFiles();
        x.write(0, 5, 2, 1);
        x.cut(0, 14);
        due("seek(0, 0, true)", x.seek(0, 0, true), 4);
        due("seek(0, 6, true)", x.seek(0, 6, true), 6);
        due("seek(0, 7, true)", x.seek(0, 7, true), 7);
        due("seek(0, 8, true)", x.seek(0, 8, true), NONE);
        due("seek(0, 0, false)", x.seek(0, 0, false), 0);
        due("seek(0, 4, false)", x.seek(0, 4, false), 8);
        due("seek(0, 13, false)", x.seek(0, 13, false), 13);
        due("seek(0, 14, false)", x.seek(0, 14, false), 14);
        due("seek(0, 96, false)", x.seek(0, 96, false), 96);
        due("seek(0, 96, true)", x.seek(0, 96, true), NONE);
        x.cut(0, 6);
        due("seek: size", x.seek(0, 5, false), 6);
        due("seek: behind size", x.seek(0, 7, false), 7);
        due("seek: behind size, data", x.seek(0, 6, true), NONE);
        due("seek(0, 97, true)", x.seek(0, 97, true), OUTSIDE);
        due("seek(0, -1, false)", x.seek(0, -1, false), OUTSIDE);
        due("seek(0, LOW, false)", x.seek(0, LOW, false), OUTSIDE);
        due("seek(4, 97, true)", x.seek(4, 97, true), UNKNOWN);
        due("seek(-1, 0, true)", x.seek(-1, 0, true), UNKNOWN);
    }

    private static void count() {
        CutFiles x = fullDisk();
        x.share(1, 23, 2, 0, 1);
        x.share(1, 23, 2, 4, 1);
        x.punch(0, 0, 4);
        due("count(0)", x.count(0), 0);
        due("count(1)", x.count(1), 1);
        due("count(47)", x.count(47), 3);
        due("count(48)", x.count(48), OUTSIDE);
        due("count(-1)", x.count(-1), OUTSIDE);
        due("count(LOW)", x.count(LOW), OUTSIDE);
        due("count(HIGH)", x.count(HIGH), OUTSIDE);
    }

    private static void range() {
        CutFiles x = fullDisk();
        x.punch(0, 0, 4);
        x.punch(0, 12, 8);
        x.punch(1, 92, 4);
        x.share(1, 0, 2, 0, 2);
        x.share(1, 0, 3, 0, 1);
        int[][] runs = {{0, 1}, {3, 2}, {47, 1}};
        int[][] bands = {{1, 2, 1}, {5, 19, 1}, {24, 1, 3}, {25, 1, 2}, {26, 21, 1}};
        for (int k = 0; k < 48; k++) {
            for (int what = 0; what < 2; what++) {
                due("range(" + k + ", " + what + ")", x.range(k, what), k < 3 ? runs[k][what] : NONE);
            }
            for (int what = 2; what < 5; what++) {
                due("range(" + k + ", " + what + ")", x.range(k, what), k < 5 ? bands[k][what - 2] : NONE);
            }
        }
        due("many(2)", x.many(2), 3);
        due("many(3)", x.many(3), 5);
        due("range(48, 0)", x.range(48, 0), OUTSIDE);
        due("range(-1, 0)", x.range(-1, 0), OUTSIDE);
        due("range(0, 5)", x.range(0, 5), OUTSIDE);
        due("range(0, -1)", x.range(0, -1), OUTSIDE);
        due("range(47, 5)", x.range(47, 5), OUTSIDE);
    }

    private static void many() {
        CutFiles x = new CutFiles();
        x.write(0, 0, 16, 1);
        x.share(0, 0, 1, 0, 2);
        x.punch(0, 8, 4);
        x.failure(1);
        x.exchange(0, 0, 1, 0, 2);
        int[] due = {45, 2, 2, 2, 1, 1};
        for (int what = 0; what < due.length; what++) {
            due("many(" + what + ")", x.many(what), due[what]);
        }
        due("many(6)", x.many(6), OUTSIDE);
        due("many(-1)", x.many(-1), OUTSIDE);
        due("many(LOW)", x.many(LOW), OUTSIDE);
        CutFiles y = fullDisk();
        due("many: no run", y.many(0) + " " + y.many(2) + " " + y.many(3), "0 0 1");
        due("range: no run", y.range(0, 0) + " " + y.range(0, 1), "-9 -9");
        CutFiles z = new CutFiles();
        due("many: no band", z.many(0) + " " + z.many(2) + " " + z.many(3), "48 1 0");
    }
}
