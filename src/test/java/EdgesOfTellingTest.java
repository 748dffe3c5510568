/** Promises 13 to 19 (ofFile, block, piece, seek, count, range, many): every range at both ends, every refusal. */
public final class EdgesOfTellingTest {
    private static final String FULL_DISK = Scenes.FULL_DISK;
    private static final String NONE_FREE = Scenes.NONE_FREE;
    private static final String MIXED = Scenes.MIXED;
    private static final String DOWN = Scenes.DOWN;

    private EdgesOfTellingTest() {
    }

    public static void main(String[] args) {
        ofFile();
        block();
        piece();
        seekRanges();
        seekData();
        seekHoles();
        count();
        rangeRanges();
        rangeTells();
        manyRanges();
        manyTells();
        Script.end();
    }

    private static void ofFile() {
        Script.test("13 ofFile: FILE 0 .. 3",
            MIXED, "ofFile 0 0 = 24; ofFile 1 0 = 12; ofFile 2 0 = 8; ofFile 3 0 = 9");
        Script.test("13 ofFile: UNKNOWN: FILE -1, 4, the least, the greatest int",
            MIXED, "ofFile -1 0 = UNKNOWN; ofFile 4 0 = UNKNOWN; ofFile LOW 0 = UNKNOWN; ofFile HIGH 0 = UNKNOWN");
        Script.test("13 ofFile: what is 0 .. 3: 0, and one less",
            MIXED, "ofFile 0 0 = 24; ofFile 0 -1 = OUTSIDE; ofFile 0 LOW = OUTSIDE");
        Script.test("13 ofFile: what is 0 .. 3: 3, and one more",
            MIXED, "ofFile 0 3 = 2; ofFile 0 4 = OUTSIDE; ofFile 0 5 = OUTSIDE; ofFile 0 HIGH = OUTSIDE");
        Script.test("13 ofFile: UNKNOWN ahead of OUTSIDE",
            MIXED, "ofFile 4 4 = UNKNOWN; ofFile -1 -1 = UNKNOWN; ofFile LOW HIGH = UNKNOWN");
        Script.test("13 ofFile: an empty FILE",
            "ofFile 0 0 = 0; ofFile 0 1 = 0; ofFile 0 2 = 0; ofFile 0 3 = 0; ofFile 0 4 = OUTSIDE");
        Script.test("13 ofFile: a FILE of HOLES alone",
            "cut 0 96; ofFile 0 0 = 96; ofFile 0 1 = 0; ofFile 0 2 = 0; ofFile 0 3 = 0");
        Script.test("13 ofFile: a full FILE, none and all SHARED",
            FULL_DISK,
            "ofFile 0 1 = 24; ofFile 0 2 = 0; ofFile 0 3 = 1; share 0 0 2 0 24; ofFile 0 1 = 24; ofFile 0 2 = 24",
            "ofFile 2 2 = 24; ofFile 2 3 = 1");
        Script.test("13 ofFile: 1 PLACES with a BLOCK, 2 with a SHARED one: one with another, one within the FILE",
            MIXED, "ofFile 0 1 = 5; ofFile 0 2 = 2; ofFile 1 1 = 2; ofFile 1 2 = 2; ofFile 2 1 = 1; ofFile 2 2 = 0",
            "share 2 1 2 3 1 = 16; ofFile 2 1 = 2; ofFile 2 2 = 2");
    }

    private static void block() {
        Script.test("14 block: FILE 0 .. 3",
            "write 0 0 4 1; write 1 0 4 1; write 2 0 4 1; write 3 0 4 1; block 0 0 = 0; block 1 0 = 1; block 2 0 = 2",
            "block 3 0 = 3");
        Script.test("14 block: UNKNOWN: FILE -1, 4, the least, the greatest int",
            MIXED, "block -1 0 = UNKNOWN; block 4 0 = UNKNOWN; block LOW 0 = UNKNOWN; block HIGH 0 = UNKNOWN");
        Script.test("14 block: p is 0 .. 23: 0, and one less",
            FULL_DISK,
            "block 0 0 = 0; block 1 0 = 24; block 0 -1 = OUTSIDE; block 1 -1 = OUTSIDE; block 0 LOW = OUTSIDE");
        Script.test("14 block: p is 0 .. 23: 23, and one more",
            FULL_DISK,
            "block 0 23 = 23; block 1 23 = 47; block 0 24 = OUTSIDE; block 1 24 = OUTSIDE; block 0 HIGH = OUTSIDE");
        Script.test("14 block: NONE: a HOLE, below SIZE and behind it",
            MIXED, "block 0 4 = NONE; block 0 6 = NONE; block 0 23 = NONE; block 3 0 = NONE; block 3 23 = NONE");
        Script.test("14 block: an empty FILE has PLACES", "block 0 0 = NONE; block 0 23 = NONE; block 0 24 = OUTSIDE");
        Script.test("14 block: UNKNOWN ahead of OUTSIDE", "block 4 24 = UNKNOWN; block -1 -1 = UNKNOWN");
    }

    private static void piece() {
        Script.test("15 piece: FILE 0 .. 3", "write 0 0 4 1; write 3 0 4 1; piece 0 0 1 = 0; piece 3 0 1 = 1");
        Script.test("15 piece: UNKNOWN: FILE -1, 4, the least, the greatest int",
            MIXED, "piece -1 0 0 = UNKNOWN; piece 4 0 0 = UNKNOWN; piece LOW 0 0 = UNKNOWN; piece HIGH 0 0 = UNKNOWN");
        Script.test("15 piece: k is 0 .. 23: 0, and one less",
            MIXED, "piece 0 0 0 = 0; piece 0 -1 0 = OUTSIDE; piece 0 LOW 0 = OUTSIDE");
        Script.test("15 piece: k is 0 .. 23: 23, and one more",
            MIXED, "piece 0 23 0 = NONE; piece 0 24 0 = OUTSIDE; piece 0 HIGH 0 = OUTSIDE");
        Script.test("15 piece: what is 0 .. 2: 0, and one less",
            MIXED, "piece 0 1 0 = 5; piece 0 1 -1 = OUTSIDE; piece 0 1 LOW = OUTSIDE");
        Script.test("15 piece: what is 0 .. 2: 2, and one more",
            MIXED, "piece 0 1 2 = 1; piece 0 1 3 = OUTSIDE; piece 0 1 HIGH = OUTSIDE");
        Script.test("15 piece: NONE: there are fewer: just one fewer",
            MIXED, "piece 0 1 1 = 4; piece 0 2 0 = NONE; piece 0 2 1 = NONE; piece 0 2 2 = NONE");
        Script.test("15 piece: NONE: an empty FILE, one of HOLES",
            MIXED, "piece 3 0 0 = NONE; piece 3 0 1 = NONE; piece 3 0 2 = NONE; cut 3 0; piece 3 0 0 = NONE");
        Script.test("15 piece: OUTSIDE ahead of NONE",
            "piece 0 23 3 = OUTSIDE; piece 0 0 -1 = OUTSIDE; piece 0 24 3 = OUTSIDE");
        Script.test("15 piece: UNKNOWN ahead of OUTSIDE",
            "piece 4 24 0 = UNKNOWN; piece 4 0 3 = UNKNOWN; piece -1 -1 -1 = UNKNOWN");
        Script.test("15 piece: 0 its first PLACE, 1 first BLOCK, 2 how many: of the first, one between, the last",
            "write 0 0 4 1; write 1 0 8 1; write 0 4 12 1; write 0 20 4 1; places 0 = 24: 0 3 4 5 . 6",
            "piece 0 0 0 = 0; piece 0 0 1 = 0; piece 0 0 2 = 1; piece 0 1 0 = 1; piece 0 1 1 = 3; piece 0 1 2 = 3",
            "piece 0 2 0 = 5; piece 0 2 1 = 6; piece 0 2 2 = 1; piece 0 3 2 = NONE");
    }

    private static void seekRanges() {
        Script.test("16 seek: FILE 0 .. 3",
            MIXED, "seek 0 0 true = 0; seek 1 0 true = 4; seek 2 0 true = 4; seek 3 0 true = NONE; seek 3 0 false = 0");
        Script.test("16 seek: UNKNOWN: FILE -1, 4, the least, the greatest int",
            MIXED, "seek -1 0 true = UNKNOWN; seek 4 0 false = UNKNOWN; seek LOW 0 true = UNKNOWN",
            "seek HIGH 0 false = UNKNOWN");
        Script.test("16 seek: at is 0 .. 96: 0, and one less",
            MIXED, "seek 0 0 true = 0; seek 0 0 false = 16; seek 0 -1 true = OUTSIDE; seek 0 -1 false = OUTSIDE",
            "seek 0 LOW true = OUTSIDE; seek 0 LOW false = OUTSIDE");
        Script.test("16 seek: at is 0 .. 96: 96, and one more",
            MIXED, "seek 0 96 true = NONE; seek 0 96 false = 96; seek 0 97 true = OUTSIDE; seek 0 97 false = OUTSIDE",
            "seek 0 HIGH true = OUTSIDE; seek 0 HIGH false = OUTSIDE");
        Script.test("16 seek: at is 0 .. 96 of a full FILE",
            FULL_DISK, "seek 0 95 true = 95; seek 0 96 true = NONE; seek 0 95 false = 96; seek 0 96 false = 96",
            "seek 0 97 true = OUTSIDE");
        Script.test("16 seek: at is 0 .. 96 of an empty FILE",
            "seek 0 0 true = NONE; seek 0 0 false = 0; seek 0 96 false = 96; seek 0 96 true = NONE",
            "seek 0 97 false = OUTSIDE; seek 0 -1 true = OUTSIDE");
        Script.test("16 seek: UNKNOWN ahead of OUTSIDE", "seek 4 97 true = UNKNOWN; seek -1 -1 false = UNKNOWN");
    }

    private static void seekData() {
        String between = "write 0 4 4 1; write 0 12 2 1; places 0 = 14: . 0 . 1; ";
        Script.test("16 seek: data: at is in it; one ahead of it; its last CELL; one behind it",
            between + "seek 0 4 true = 4; seek 0 3 true = 4; seek 0 7 true = 7; seek 0 8 true = 12");
        Script.test("16 seek: data: the last CELL below SIZE; SIZE; behind SIZE in the same PLACE",
            between + "seek 0 13 true = 13; seek 0 14 true = NONE; seek 0 15 true = NONE; seek 0 16 true = NONE");
        Script.test("16 seek: data: none below SIZE behind at",
            between + "cut 0 20; seek 0 16 true = NONE; seek 0 19 true = NONE; seek 0 15 true = 15");
        Script.test("16 seek: data: CELLS of a BLOCK that are 0 are data",
            "write 0 0 4 0; seek 0 0 true = 0; seek 0 0 false = 4");
    }

    private static void seekHoles() {
        String between = "write 0 0 4 1; write 0 8 2 1; places 0 = 10: 0 . 1; ";
        Script.test("16 seek: a HOLE: at is in it; one ahead of it; its last CELL",
            between + "seek 0 4 false = 4; seek 0 3 false = 4; seek 0 0 false = 4; seek 0 7 false = 7");
        Script.test("16 seek: no HOLE below SIZE: SIZE, if at is less or just that",
            between + "seek 0 8 false = 10; seek 0 9 false = 10; seek 0 10 false = 10");
        Script.test("16 seek: no HOLE below SIZE: at, if it is greater",
            between + "seek 0 11 false = 11; seek 0 12 false = 12; seek 0 95 false = 95");
        Script.test("16 seek: a HOLE that goes to SIZE",
            "write 0 0 4 1; cut 0 6; seek 0 3 false = 4; seek 0 5 false = 5; seek 0 6 false = 6; seek 0 7 false = 7");
        Script.test("16 seek: no HOLE in a full FILE", FULL_DISK, "seek 0 0 false = 96; seek 1 50 false = 96");
    }

    private static void count() {
        Script.test("17 count: b is 0 .. 47: 0, and one less",
            FULL_DISK, "count 0 = 1; count -1 = OUTSIDE; count LOW = OUTSIDE; count NONE = OUTSIDE");
        Script.test("17 count: b is 0 .. 47: 47, and one more",
            FULL_DISK, "count 47 = 1; count 48 = OUTSIDE; count HIGH = OUTSIDE");
        Script.test("17 count: 0 of a FREE BLOCK: on an empty DISK, and of one that came FREE",
            "count 0 = 0; count 47 = 0; write 0 0 8 1; cut 0 4; count 0 = 1; count 1 = 0");
        Script.test("17 count: PLACES of several FILES and of one",
            MIXED, "counts = 2*2 1*4 0*42; share 0 1 0 4 1; share 0 1 3 0 1; count 1 = 4; count 0 = 2");
    }

    private static void rangeRanges() {
        Script.test("18 range: k is 0 .. 47: 0, and one less",
            MIXED, "range 0 0 = 6; range 0 2 = 0; range -1 0 = OUTSIDE; range -1 2 = OUTSIDE; range LOW 0 = OUTSIDE");
        Script.test("18 range: k is 0 .. 47: 47, and one more",
            MIXED,
            "range 47 0 = NONE; range 47 4 = NONE; range 48 0 = OUTSIDE; range 48 4 = OUTSIDE; range HIGH 0 = OUTSIDE");
        Script.test("18 range: what is 0 .. 4: 0, and one less",
            MIXED, "range 0 0 = 6; range 0 -1 = OUTSIDE; range 0 LOW = OUTSIDE");
        Script.test("18 range: what is 0 .. 4: 4, and one more",
            MIXED, "range 0 4 = 2; range 0 5 = OUTSIDE; range 0 HIGH = OUTSIDE");
        Script.test("18 range: OUTSIDE ahead of NONE",
            "range 47 5 = OUTSIDE; range 1 -1 = OUTSIDE; range 48 5 = OUTSIDE");
    }

    private static void rangeTells() {
        Script.test("18 range: NONE: there are fewer RUNS: one fewer, none",
            MIXED, "range 1 0 = NONE; range 1 1 = NONE",
            "write 3 0 96 1; write 2 8 72 1 = 80; many 0 = 0; range 0 0 = NONE; range 0 1 = NONE");
        Script.test("18 range: NONE: there are fewer BANDS: one fewer, none",
            "range 0 2 = NONE; range 0 3 = NONE; range 0 4 = NONE", MIXED,
            "range 1 2 = 2; range 1 3 = 4; range 1 4 = 1; range 2 2 = NONE; range 2 3 = NONE; range 2 4 = NONE");
        Script.test("18 range: more RUNS than BANDS, and the other way round",
            "write 0 0 8 1; collapse 0 0 1 = 4; many 2 = 2; many 3 = 1; range 1 0 = 2; range 1 2 = NONE",
            "share 0 0 1 0 1; write 1 4 4 1; punch 1 4 4; write 0 4 8 1",
            "places 0 = 12: 1 2 3; many 2 = 2; many 3 = 2; write 2 0 4 1; places 2 = 4: 0; many 2 = 1; many 3 = 3",
            "range 2 2 = 2; range 2 3 = 2; range 2 4 = 1; range 1 0 = NONE");
        Script.test("18 range: RUNS and BANDS in the order of the DISK",
            NONE_FREE, "punch 1 0 4; punch 1 12 8; punch 0 0 4",
            "range 0 0 = 24; range 0 1 = 1; range 1 0 = 27; range 1 1 = 2; range 2 0 = NONE",
            "range 0 2 = 0; range 0 3 = 1; range 0 4 = 1; range 1 2 = 1; range 1 3 = 2; range 1 4 = 2; range 2 2 = 3",
            "range 2 3 = 21; range 3 2 = 25; range 3 3 = 2; range 4 2 = 29; range 4 3 = 19; range 5 2 = NONE");
    }

    private static void manyRanges() {
        Script.test("19 many: what is 0 .. 5: 0, and one less",
            MIXED, "many 0 = 42; many -1 = OUTSIDE; many LOW = OUTSIDE");
        Script.test("19 many: what is 0 .. 5: 5, and one more",
            DOWN, "many 5 = 1; many 6 = OUTSIDE; many HIGH = OUTSIDE");
    }

    private static void manyTells() {
        Script.test("19 many: an empty DISK",
            "many 0 = 48; many 1 = 0; many 2 = 1; many 3 = 0; many 4 = 0; many 5 = 0");
        Script.test("19 many: a full DISK", FULL_DISK, "many 0 = 0; many 1 = 0; many 2 = 0; many 3 = 1");
        Script.test("19 many: 0 FREE BLOCKS: one, none, by a last PLACE",
            "write 0 0 96 1; write 1 0 92 1; many 0 = 1; write 1 92 1 1; many 0 = 0; cut 1 92; many 0 = 1");
        Script.test("19 many: 1 SHARED ones are BLOCKS, not PLACES",
            NONE_FREE,
            "many 1 = 3; share 0 0 3 0 1; many 1 = 3; share 0 0 3 0 24; many 1 = 24; share 1 0 3 0 24; many 1 = 27",
            "share 1 0 2 0 24; many 1 = 24");
        Script.test("19 many: 1 all 48 are SHARED",
            FULL_DISK, "share 0 0 2 0 24; share 1 0 3 0 24; many 1 = 48; many 3 = 1; range 0 4 = 2; range 0 3 = 48");
        Script.test("19 many: 4 whether it is DOWN: ahead of it, DOWN, behind it",
            MIXED, "many 4 = 0; exchange 0 0 1 0 1 = 1; many 4 = 0; failure 1; exchange 0 0 1 0 2 = 1; many 4 = 1",
            "mount true = 1; many 4 = 0");
        Script.test("19 many: 5 STEPS that are yet to be done: 0, if it is not DOWN",
            MIXED,
            "many 5 = 0; exchange 0 0 1 0 3 = 1; many 5 = 2; mount false = 1; many 5 = 0; exchange 0 0 1 0 3 = 3",
            "many 5 = 0");
        Script.test("19 many: 5 STEPS that are yet to be done: one, 24",
            FULL_DISK, "failure 23; exchange 0 0 1 0 24 = 23; many 5 = 1; mount true = 1; many 5 = 0; failure 0",
            "exchange 0 0 1 0 24 = 0; many 5 = 24");
    }
}
