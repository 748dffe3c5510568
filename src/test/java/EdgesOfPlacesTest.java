/** Promises 6 to 9 (collapse, insert, share, unshare): every range at both ends, every refusal, and their order. */
public final class EdgesOfPlacesTest {
    private static final String FULL_DISK = Scenes.FULL_DISK;
    private static final String NONE_FREE = Scenes.NONE_FREE;
    private static final String ONE_FREE = Scenes.ONE_FREE;
    private static final String TWO_FREE = Scenes.TWO_FREE;
    private static final String MIXED = Scenes.MIXED;
    private static final String DOWN = Scenes.DOWN;
    private static final String DOWN_AND_NONE_FREE = Scenes.DOWN_AND_NONE_FREE;

    private EdgesOfPlacesTest() {
    }

    public static void main(String[] args) {
        collapseRanges();
        collapseRefusals();
        insertRanges();
        insertRefusals();
        shareRanges();
        shareState();
        shareOrder();
        shareSize();
        unshareRanges();
        unshareRefusals();
        Script.end();
    }

    private static void collapseRanges() {
        Script.test("6 collapse: FILE 0 .. 3",
            "cut 0 8; cut 3 8; collapse 0 0 1 = 4; collapse 3 0 1 = 4; ofFile 0 0 = 4; ofFile 3 0 = 4");
        Script.test("6 collapse: UNKNOWN: FILE -1, 4, the least, the greatest int",
            MIXED, "collapse -1 0 1 = UNKNOWN; collapse 4 0 1 = UNKNOWN; collapse LOW 0 1 = UNKNOWN",
            "collapse HIGH 0 1 = UNKNOWN");
        Script.test("6 collapse: p is 0 .. 23: 0, and one less",
            MIXED,
            "collapse 0 -1 1 = OUTSIDE; collapse 0 -1 2 = OUTSIDE; collapse 0 LOW 1 = OUTSIDE; collapse 0 0 1 = 20",
            "places 0 = 20: 1 2 3 . 4");
        Script.test("6 collapse: p is 0 .. 23: 23 (there is nothing behind it), and one more",
            FULL_DISK, "collapse 0 23 1 = STATE; collapse 0 24 1 = OUTSIDE; collapse 0 24 0 = OUTSIDE",
            "collapse 0 HIGH 1 = OUTSIDE; collapse 0 22 1 = 92", "block 0 21 = 21; block 0 22 = 23; block 0 23 = NONE");
        Script.test("6 collapse: n is 1 ..: 1, and one less",
            MIXED, "collapse 0 1 0 = OUTSIDE; collapse 0 1 -1 = OUTSIDE; collapse 0 1 LOW = OUTSIDE",
            "collapse 0 23 LOW = OUTSIDE; collapse 0 1 1 = 20; places 0 = 20: 0 2 3 . 4");
        Script.test("6 collapse: n is .. 24 less p: from 0 on",
            FULL_DISK,
            "collapse 0 0 25 = OUTSIDE; collapse 0 0 HIGH = OUTSIDE; collapse 0 0 24 = STATE; collapse 0 0 23 = 4",
            "places 0 = 4: 23");
        Script.test("6 collapse: n is .. 24 less p: from 1 on",
            FULL_DISK,
            "collapse 0 1 24 = OUTSIDE; collapse 0 1 HIGH = OUTSIDE; collapse 0 1 23 = STATE; collapse 0 1 22 = 8",
            "places 0 = 8: 0 23");
        Script.test("6 collapse: n is .. 24 less p: from 23 on",
            FULL_DISK, "collapse 0 23 2 = OUTSIDE; collapse 0 23 HIGH = OUTSIDE; collapse 0 23 0 = OUTSIDE",
            "collapse 0 23 1 = STATE");
        Script.test("6 collapse: it answers SIZE then, also within a PLACE",
            "write 0 0 14 1; collapse 0 0 1 = 10; collapse 0 1 1 = 6; collapse 0 0 1 = 2; ofFile 0 0 = 2",
            "places 0 = 2: 3");
    }

    private static void collapseRefusals() {
        Script.test("6 collapse: STATE: no CELL below SIZE behind them: SIZE is their end",
            "write 0 0 8 1; collapse 0 0 2 = STATE; collapse 0 1 1 = STATE");
        Script.test("6 collapse: one CELL below SIZE behind them",
            "write 0 0 9 1; collapse 0 0 2 = 1; places 0 = 1: 2; cells 0 = 1");
        Script.test("6 collapse: STATE: SIZE ends within them",
            "write 0 0 7 1; collapse 0 0 2 = STATE; collapse 0 1 1 = STATE; collapse 0 0 1 = 3");
        Script.test("6 collapse: STATE: they are all behind SIZE",
            "write 0 0 8 1; collapse 0 2 1 = STATE; collapse 0 10 3 = STATE");
        Script.test("6 collapse: STATE: an empty FILE",
            "collapse 0 0 1 = STATE; collapse 0 0 24 = STATE; collapse 0 23 1 = STATE");
        Script.test("6 collapse: STATE: all of a full FILE",
            "write 0 0 96 1; collapse 0 0 24 = STATE; collapse 0 12 12 = STATE; collapse 0 11 12 = 48");
        Script.test("6 collapse: HOLES below SIZE are CELLS behind them, too",
            "cut 0 5; collapse 0 0 1 = 1; collapse 0 0 1 = STATE");
        Script.test("6 collapse: STATE: the house is DOWN",
            DOWN, "collapse 0 0 1 = STATE; collapse 3 0 1 = STATE; mount false = 1; collapse 0 0 1 = 20");
        Script.test("6 collapse: UNKNOWN ahead of OUTSIDE, STATE",
            DOWN, "collapse 4 24 1 = UNKNOWN; collapse -1 0 0 = UNKNOWN; collapse 4 0 1 = UNKNOWN");
        Script.test("6 collapse: UNKNOWN ahead of STATE by SIZE",
            "collapse 4 0 1 = UNKNOWN; collapse -1 0 24 = UNKNOWN");
        Script.test("6 collapse: OUTSIDE ahead of STATE",
            DOWN, "collapse 0 24 1 = OUTSIDE; collapse 0 0 0 = OUTSIDE; collapse 0 0 25 = OUTSIDE",
            "collapse 0 -1 1 = OUTSIDE");
        Script.test("6 collapse: OUTSIDE ahead of STATE by SIZE",
            "collapse 0 0 25 = OUTSIDE; collapse 0 24 1 = OUTSIDE; collapse 0 23 2 = OUTSIDE");
    }

    private static void insertRanges() {
        Script.test("7 insert: FILE 0 .. 3",
            "cut 0 8; cut 3 8; insert 0 0 1 = 12; insert 3 0 1 = 12; ofFile 0 0 = 12; ofFile 3 0 = 12");
        Script.test("7 insert: UNKNOWN: FILE -1, 4, the least, the greatest int",
            MIXED,
            "insert -1 0 1 = UNKNOWN; insert 4 0 1 = UNKNOWN; insert LOW 0 1 = UNKNOWN; insert HIGH 0 1 = UNKNOWN");
        Script.test("7 insert: p is 0 .. 23: 0, and one less",
            MIXED,
            "insert 0 -1 1 = OUTSIDE; insert 0 LOW 1 = OUTSIDE; insert 0 0 1 = 28; places 0 = 28: . 0 1 2 3 . 4");
        Script.test("7 insert: p is 0 .. 23: 23 (it would be too many), and one more",
            FULL_DISK,
            "insert 0 23 1 = FULL; insert 0 24 1 = OUTSIDE; insert 0 24 24 = OUTSIDE; insert 0 HIGH 1 = OUTSIDE");
        Script.test("7 insert: p is 22, the last with room behind it",
            "write 0 0 89 1; insert 0 22 1 = 93; block 0 22 = NONE; block 0 23 = 22; read 0 92 = 1");
        Script.test("7 insert: n is 1 .. 24: 1, and one less",
            MIXED, "insert 0 1 0 = OUTSIDE; insert 0 1 -1 = OUTSIDE; insert 0 1 LOW = OUTSIDE; insert 0 1 1 = 28",
            "places 0 = 28: 0 . 1 2 3 . 4");
        Script.test("7 insert: n is 1 .. 24: 24 (it would be too many), and one more",
            "cut 0 1; insert 0 0 24 = FULL; insert 0 0 25 = OUTSIDE; insert 0 0 HIGH = OUTSIDE");
        Script.test("7 insert: n is 1 .. 24 for each p",
            "cut 0 93; insert 0 23 24 = FULL; insert 0 23 25 = OUTSIDE; insert 0 12 24 = FULL",
            "insert 0 12 25 = OUTSIDE");
        Script.test("7 insert: it answers SIZE then, also within a PLACE",
            "write 0 0 2 1; insert 0 0 1 = 6; insert 0 1 22 = 94; ofFile 0 0 = 94; block 0 23 = 0");
    }

    private static void insertRefusals() {
        Script.test("7 insert: STATE: p has no CELL below SIZE: SIZE is where p begins",
            "write 0 0 8 1; insert 0 2 1 = STATE; insert 0 3 1 = STATE; insert 0 23 1 = STATE");
        Script.test("7 insert: p has one CELL below SIZE",
            "write 0 0 9 1; insert 0 2 1 = 13; places 0 = 13: 0 1 . 2; cells 0 = 1*8 0*4 1");
        Script.test("7 insert: STATE: an empty FILE",
            "insert 0 0 1 = STATE; insert 0 0 24 = STATE; insert 0 23 24 = STATE");
        Script.test("7 insert: FULL: SIZE would be 97; 96 is not above 96",
            "cut 0 93; insert 0 0 1 = FULL; cut 0 92 = 93; insert 0 0 1 = 96");
        Script.test("7 insert: FULL: by many PLACES",
            "write 0 0 5 1; insert 0 0 23 = FULL; insert 0 1 24 = FULL; insert 0 0 22 = 93",
            "places 0 = 93: . . . . . . . . . . . . . . . . . . . . . . 0 1");
        Script.test("7 insert: FULL: a full FILE",
            FULL_DISK, "insert 0 0 1 = FULL; insert 0 0 24 = FULL; insert 0 23 24 = FULL");
        Script.test("7 insert: STATE: the house is DOWN",
            DOWN, "insert 0 0 1 = STATE; insert 3 2 1 = STATE; mount false = 1; insert 0 0 1 = 28");
        Script.test("7 insert: UNKNOWN ahead of OUTSIDE, STATE",
            DOWN, "insert 4 24 1 = UNKNOWN; insert -1 0 0 = UNKNOWN; insert 4 0 1 = UNKNOWN");
        Script.test("7 insert: UNKNOWN ahead of STATE by SIZE", "insert 4 0 1 = UNKNOWN; insert -1 0 24 = UNKNOWN");
        Script.test("7 insert: OUTSIDE ahead of STATE",
            DOWN, "insert 0 24 1 = OUTSIDE; insert 0 0 0 = OUTSIDE; insert 0 0 25 = OUTSIDE; insert 0 -1 1 = OUTSIDE");
        Script.test("7 insert: OUTSIDE ahead of STATE by SIZE",
            "insert 0 24 1 = OUTSIDE; insert 0 0 25 = OUTSIDE; insert 0 0 0 = OUTSIDE");
        Script.test("7 insert: OUTSIDE ahead of FULL",
            FULL_DISK, "insert 0 0 25 = OUTSIDE; insert 0 24 1 = OUTSIDE; insert 0 0 0 = OUTSIDE");
        Script.test("7 insert: STATE by SIZE ahead of FULL",
            "cut 0 92; insert 0 23 2 = STATE; insert 0 23 24 = STATE; insert 0 22 2 = FULL");
        Script.test("7 insert: STATE by DOWN ahead of FULL",
            DOWN,
            "insert 0 0 24 = STATE; insert 0 0 19 = STATE; mount false = 1; insert 0 0 19 = FULL; insert 0 0 18 = 96");
    }

    private static void shareRanges() {
        Script.test("8 share: FILES 0 .. 3, both",
            "write 0 0 4 1; share 0 0 3 0 1 = 4; share 3 0 0 1 1 = 8; share 3 0 1 0 1 = 4; share 1 0 2 0 1 = 4",
            "count 0 = 5");
        Script.test("8 share: UNKNOWN: f is -1, 4, the least, the greatest int",
            MIXED, "share -1 0 1 0 1 = UNKNOWN; share 4 0 1 0 1 = UNKNOWN; share LOW 0 1 0 1 = UNKNOWN",
            "share HIGH 0 1 0 1 = UNKNOWN");
        Script.test("8 share: UNKNOWN: g is -1, 4, the least, the greatest int",
            MIXED, "share 0 0 -1 0 1 = UNKNOWN; share 0 0 4 0 1 = UNKNOWN; share 0 0 LOW 0 1 = UNKNOWN",
            "share 0 0 HIGH 0 1 = UNKNOWN; share 4 0 4 0 1 = UNKNOWN");
        Script.test("8 share: p is 0 .. 23: 0, and one less",
            FULL_DISK, "share 0 -1 2 0 1 = OUTSIDE; share 0 LOW 2 0 1 = OUTSIDE; share 0 0 2 0 1 = 4; places 2 = 4: 0");
        Script.test("8 share: p is 0 .. 23: 23, and one more",
            FULL_DISK, "share 0 24 2 0 1 = OUTSIDE; share 0 24 2 0 0 = OUTSIDE; share 0 HIGH 2 0 1 = OUTSIDE",
            "share 0 23 2 0 1 = 4; places 2 = 4: 23");
        Script.test("8 share: q is 0 .. 23: 0, and one less",
            FULL_DISK, "share 0 5 2 -1 1 = OUTSIDE; share 0 5 2 LOW 1 = OUTSIDE; share 0 5 2 0 1 = 4; places 2 = 4: 5");
        Script.test("8 share: q is 0 .. 23: 23, and one more",
            FULL_DISK, "share 0 5 2 24 1 = OUTSIDE; share 0 5 2 24 0 = OUTSIDE; share 0 5 2 HIGH 1 = OUTSIDE",
            "share 0 5 2 23 1 = 96; block 2 23 = 5; ofFile 2 1 = 1");
        Script.test("8 share: n is 1 ..: 1, and one less",
            FULL_DISK, "share 0 5 2 5 0 = OUTSIDE; share 0 5 2 5 -1 = OUTSIDE; share 0 5 2 5 LOW = OUTSIDE",
            "share 0 23 2 23 LOW = OUTSIDE; share 0 5 2 5 1 = 24");
        Script.test("8 share: n is .. 24 less the greater of both: both 0",
            FULL_DISK,
            "share 0 0 2 0 25 = OUTSIDE; share 0 0 2 0 HIGH = OUTSIDE; share 0 0 2 0 24 = 96; ofFile 2 1 = 24");
        Script.test("8 share: n is .. 24 less the greater of both: p is",
            FULL_DISK, "share 0 20 2 3 5 = OUTSIDE; share 0 20 2 3 HIGH = OUTSIDE; share 0 20 2 3 4 = 28",
            "places 2 = 28: . . . 20 21 22 23");
        Script.test("8 share: n is .. 24 less the greater of both: q is",
            FULL_DISK,
            "share 0 3 2 20 5 = OUTSIDE; share 0 3 2 20 HIGH = OUTSIDE; share 0 3 2 20 4 = 96; piece 2 0 0 = 20",
            "piece 2 0 1 = 3; piece 2 0 2 = 4");
        Script.test("8 share: n is .. 24 less the greater of both: both 23",
            FULL_DISK,
            "share 0 23 2 23 2 = OUTSIDE; share 0 23 2 23 HIGH = OUTSIDE; share 0 23 2 23 1 = 96; block 2 23 = 23");
    }

    private static void shareState() {
        Script.test("8 share: STATE: some CELLS of those of f are not below SIZE: one CELL",
            "write 0 0 7 1; share 0 0 1 0 2 = STATE; share 0 1 1 0 1 = STATE; share 0 0 1 0 1 = 4; cut 0 8 = 7",
            "share 0 0 1 0 2 = 8");
        Script.test("8 share: STATE: some CELLS of those of f are not below SIZE: a whole PLACE, all of them",
            "write 0 0 8 1; share 0 0 1 0 3 = STATE; share 0 2 1 0 1 = STATE; share 0 23 1 0 1 = STATE",
            "share 0 0 1 0 2 = 8");
        Script.test("8 share: STATE: an empty FILE f",
            "write 1 0 96 1; share 0 0 1 0 1 = STATE; share 0 0 1 0 24 = STATE; share 0 0 0 1 1 = STATE");
        Script.test("8 share: CELLS of g may be anywhere: g is empty, its PLACES far behind its SIZE",
            "write 0 0 4 1; share 0 0 1 23 1 = 96; ofFile 1 1 = 1; cells 1 = 0*92 1*4");
        Script.test("8 share: STATE: FILES are one and the PLACES meet: all, one at either end",
            MIXED,
            "share 0 1 0 1 2 = STATE; share 0 0 0 1 2 = STATE; share 0 1 0 0 2 = STATE; share 0 2 0 4 3 = STATE",
            "share 0 3 0 3 1 = STATE");
        Script.test("8 share: FILES are one and the PLACES only touch",
            MIXED,
            "share 0 0 0 2 2 = 24; places 0 = 24: 0 1 0 1 . 4; share 0 4 0 2 2 = 24; places 0 = 24: 0 1 . 4 . 4");
        Script.test("8 share: FILES are two: the same PLACES do not meet",
            MIXED, "share 0 1 1 1 2 = 12; places 1 = 12: . 1 2; share 0 1 1 0 2 = 12; places 1 = 12: 1 2 2");
        Script.test("8 share: STATE: the house is DOWN",
            DOWN, "share 0 0 2 0 1 = STATE; share 2 0 3 23 1 = STATE; mount true = 1; share 0 0 2 0 1 = 8");
    }

    private static void shareOrder() {
        Script.test("8 share: UNKNOWN (f, g) ahead of OUTSIDE (p, q, n)",
            MIXED, "share 4 24 0 0 1 = UNKNOWN; share 0 24 4 0 1 = UNKNOWN; share 0 0 -1 24 1 = UNKNOWN",
            "share -1 0 0 0 0 = UNKNOWN; share 0 0 4 0 25 = UNKNOWN");
        Script.test("8 share: UNKNOWN ahead of STATE",
            DOWN, "share 4 0 0 0 1 = UNKNOWN; share 0 0 4 0 1 = UNKNOWN; share -1 0 -1 0 1 = UNKNOWN");
        Script.test("8 share: OUTSIDE ahead of STATE: the house is DOWN",
            DOWN, "share 0 24 1 0 1 = OUTSIDE; share 0 0 1 24 1 = OUTSIDE; share 0 0 1 0 0 = OUTSIDE",
            "share 0 0 1 0 25 = OUTSIDE; share 0 0 1 20 5 = OUTSIDE");
        Script.test("8 share: OUTSIDE ahead of STATE: CELLS not below SIZE",
            "share 0 24 1 0 1 = OUTSIDE; share 0 0 1 23 2 = OUTSIDE; share 0 23 1 0 2 = OUTSIDE",
            "share 0 0 1 -1 1 = OUTSIDE");
        Script.test("8 share: OUTSIDE ahead of STATE: the PLACES meet",
            FULL_DISK, "share 0 0 0 1 24 = OUTSIDE; share 0 23 0 22 2 = OUTSIDE; share 0 24 0 24 1 = OUTSIDE",
            "share 0 5 0 5 0 = OUTSIDE");
        Script.test("8 share: no SPENT: it needs none FREE",
            NONE_FREE, "share 0 0 3 0 24 = 96; share 1 0 3 0 24 = 96; many 0 = 0");
    }

    private static void shareSize() {
        Script.test("8 share: SIZE of g becomes 4 times (q and n), if it is less: by one CELL",
            "write 0 0 8 1; cut 1 15; share 0 0 1 2 2 = 16; ofFile 1 0 = 16; places 1 = 16: . . 0 1");
        Script.test("8 share: SIZE of g stays, if it is just that",
            "write 0 0 8 1; cut 1 16; share 0 0 1 2 2 = 16; ofFile 1 0 = 16");
        Script.test("8 share: SIZE of g stays, if it is more",
            "write 0 0 8 1; cut 1 17; share 0 0 1 2 2 = 17; ofFile 1 0 = 17; write 2 0 96 1; share 0 0 2 0 2 = 96");
        Script.test("8 share: SIZE of f stays",
            "write 0 0 9 1; share 0 0 1 10 2 = 48; ofFile 0 0 = 9; places 0 = 9: 0 1 2");
        Script.test("8 share: within one FILE: its SIZE",
            "write 0 0 9 1; share 0 0 0 2 2 = 16; ofFile 0 0 = 16; places 0 = 16: 0 1 0 1; count 2 = 0");
    }

    private static void unshareRanges() {
        Script.test("9 unshare: FILE 0 .. 3",
            "write 0 0 4 1; share 0 0 3 0 1; unshare 3 0 1 = 1; share 3 0 0 0 1; unshare 0 0 1 = 1; counts = 1*2 0*46");
        Script.test("9 unshare: UNKNOWN: FILE -1, 4, the least, the greatest int",
            MIXED,
            "unshare -1 0 1 = UNKNOWN; unshare 4 0 1 = UNKNOWN; unshare LOW 0 1 = UNKNOWN; unshare HIGH 0 1 = UNKNOWN");
        Script.test("9 unshare: p is 0 .. 23: 0, and one less",
            MIXED, "unshare 0 -1 1 = OUTSIDE; unshare 0 -1 2 = OUTSIDE; unshare 0 LOW 1 = OUTSIDE; unshare 0 0 1 = 1",
            "places 0 = 24: 6 1 2 3 . 4");
        Script.test("9 unshare: p is 0 .. 23: 23, and one more",
            "write 0 0 4 1; share 0 0 1 23 1 = 96",
            "unshare 1 24 1 = OUTSIDE; unshare 1 24 0 = OUTSIDE; unshare 1 HIGH 1 = OUTSIDE; unshare 1 23 1 = 1",
            "block 1 23 = 1");
        Script.test("9 unshare: n is 1 ..: 1, and one less",
            MIXED,
            "unshare 0 0 0 = OUTSIDE; unshare 0 0 -1 = OUTSIDE; unshare 0 0 LOW = OUTSIDE; unshare 0 23 LOW = OUTSIDE",
            "unshare 0 1 1 = 1; places 0 = 24: 0 6 2 3 . 4");
        Script.test("9 unshare: n is .. 24 less p: from 0 on",
            MIXED,
            "unshare 0 0 25 = OUTSIDE; unshare 0 0 HIGH = OUTSIDE; unshare 0 0 24 = 2; places 0 = 24: 6 7 2 3 . 4");
        Script.test("9 unshare: n is .. 24 less p: from 1 on",
            MIXED,
            "unshare 0 1 24 = OUTSIDE; unshare 0 1 HIGH = OUTSIDE; unshare 0 1 23 = 1; places 0 = 24: 0 6 2 3 . 4");
        Script.test("9 unshare: n is .. 24 less p: from 23 on",
            MIXED, "unshare 0 23 2 = OUTSIDE; unshare 0 23 HIGH = OUTSIDE; unshare 0 23 1 = 0");
        Script.test("9 unshare: as far as there are: an empty FILE, one of HOLES, behind SIZE",
            "unshare 0 0 24 = 0; unshare 0 23 1 = 0; cut 0 96; unshare 0 0 24 = 0; write 1 0 4 1; share 1 0 2 0 1",
            "unshare 2 1 23 = 0; unshare 2 0 24 = 1");
        Script.test("9 unshare: how many were SHARED: none, one, all 24",
            "write 0 0 96 1; unshare 0 0 24 = 0; share 0 23 1 23 1 = 96; unshare 0 0 24 = 1; share 0 0 1 0 24 = 96",
            "unshare 0 0 24 = 24; unshare 1 0 24 = 0", "counts = 1*48; cells 0 = 1*96; cells 1 = 1*96");
        Script.test("9 unshare: PLACES outside p .. p and n - 1 stay SHARED",
            "write 0 0 20 1; share 0 0 1 0 5; unshare 1 1 3 = 3; places 1 = 20: 0 5 6 7 4");
    }

    private static void unshareRefusals() {
        Script.test("9 unshare: STATE: the house is DOWN",
            DOWN, "unshare 0 0 24 = STATE; unshare 3 0 1 = STATE; mount false = 1; unshare 0 0 24 = 2");
        Script.test("9 unshare: SPENT: one SHARED PLACE, none FREE, one",
            NONE_FREE, "unshare 2 1 1 = SPENT; unshare 0 2 22 = SPENT; punch 1 40 4 = 1; unshare 2 1 1 = 1",
            "places 2 = 12: 0 34 2; many 0 = 0");
        Script.test("9 unshare: SPENT: three SHARED PLACES, two FREE: none is OWNED",
            TWO_FREE, "unshare 2 0 24 = SPENT; unshare 0 0 3 = SPENT; places 2 = 12: 0 1 2; many 0 = 2");
        Script.test("9 unshare: just as many FREE as are wanted: two, then one",
            TWO_FREE, "unshare 2 1 23 = 2; places 2 = 12: 0 34 47; many 0 = 0",
            "punch 1 0 4 = 1; unshare 2 0 24 = 1; block 2 0 = 24");
        Script.test("9 unshare: as many as can be wanted, 24, the DISK has one fewer, just these",
            "write 0 0 96 1; share 0 0 1 0 24 = 96; write 2 0 4 2; many 0 = 23; unshare 1 0 24 = SPENT",
            "unshare 0 0 24 = SPENT; cut 2 0; unshare 1 0 24 = 24; many 0 = 0");
        Script.test("9 unshare: none SHARED needs none FREE",
            NONE_FREE, "unshare 1 0 24 = 0; unshare 0 3 21 = 0; unshare 2 3 21 = 0; unshare 3 0 24 = 0");
        Script.test("9 unshare: UNKNOWN ahead of OUTSIDE, STATE",
            DOWN, "unshare 4 24 1 = UNKNOWN; unshare -1 0 0 = UNKNOWN; unshare 4 0 1 = UNKNOWN");
        Script.test("9 unshare: OUTSIDE ahead of STATE",
            DOWN,
            "unshare 0 24 1 = OUTSIDE; unshare 0 0 0 = OUTSIDE; unshare 0 0 25 = OUTSIDE; unshare 0 -1 1 = OUTSIDE");
        Script.test("9 unshare: UNKNOWN, OUTSIDE ahead of SPENT",
            ONE_FREE,
            "unshare 4 0 24 = UNKNOWN; unshare 2 0 25 = OUTSIDE; unshare 2 1 24 = OUTSIDE; unshare 2 0 24 = SPENT");
        Script.test("9 unshare: STATE ahead of SPENT",
            DOWN_AND_NONE_FREE, "unshare 2 0 24 = STATE; mount true = 1; unshare 2 0 24 = SPENT");
    }
}
