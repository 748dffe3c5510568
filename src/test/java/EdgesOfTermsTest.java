/** Edges that the document's Terms name, chapter by chapter, and promise 1. */
public final class EdgesOfTermsTest {
    private static final String FULL_DISK = Scenes.FULL_DISK;
    /** Of the full disk every second block of file 0 is free: twelve runs of one block each. */
    private static final String TWELVE_SINGLES = FULL_DISK
        + "; punch 0 4 4; punch 0 12 4; punch 0 20 4; punch 0 28 4; punch 0 36 4; punch 0 44 4"
        + "; punch 0 52 4; punch 0 60 4; punch 0 68 4; punch 0 76 4; punch 0 84 4; punch 0 92 4";

    private EdgesOfTermsTest() {
    }

    public static void main(String[] args) {
        newObject();
        files();
        blocksOfTheDisk();
        cells();
        placesOfFiles();
        behindSize();
        counts();
        runs();
        gotFromOneRun();
        gotFromSeveralRuns();
        gotOrSpent();
        owning();
        writing();
        punching();
        cutting();
        collapsing();
        inserting();
        sharing();
        failure();
        mounted();
        pieces();
        bands();
        lastCall();
        Script.end();
    }

    private static void newObject() {
        Script.test("1: all FILES of a new object are empty",
            "places 0 = 0:; places 1 = 0:; places 2 = 0:; places 3 = 0:", "read 0 0 = OUTSIDE; read 3 0 = OUTSIDE",
            "ofFile 0 1 = 0; ofFile 1 1 = 0; ofFile 2 1 = 0; ofFile 3 1 = 0");
        Script.test("1: all BLOCKS of a new object are FREE",
            "counts = 0*48; many 0 = 48; many 1 = 0; many 2 = 1; many 3 = 0; range 0 0 = 0; range 0 1 = 48");
        Script.test("1: a new object is not DOWN, and has no FAILURE",
            "many 4 = 0; many 5 = 0; mount true = STATE; mount false = STATE; failure NONE = NONE");
    }

    private static void files() {
        Script.test("Terms 1: FILES are 0 .. 3, each with its own SIZE and PLACES",
            "write 0 0 1 10 = 1; write 1 0 5 11 = 5; write 2 0 9 12 = 9; write 3 0 13 13 = 13",
            "places 0 = 1: 0; places 1 = 5: 1 2; places 2 = 9: 3 4 5; places 3 = 13: 6 7 8 9",
            "cells 0 = 10; cells 1 = 11*5; cells 2 = 12*9; cells 3 = 13*13");
        Script.test("Terms 1: there is no FILE -1 and no FILE 4",
            "write -1 0 1 1 = UNKNOWN; write 4 0 1 1 = UNKNOWN; write LOW 0 1 1 = UNKNOWN; write HIGH 0 1 1 = UNKNOWN",
            "many 0 = 48");
    }

    private static void blocksOfTheDisk() {
        Script.test("Terms 1: BLOCKS are 0 .. 47: the last one can be had, and there is none behind it",
            "write 0 0 96 1 = 96; write 1 0 92 2 = 92; many 0 = 1; count 47 = 0",
            "write 2 95 1 3 = 96; block 2 23 = 47; many 0 = 0; count 47 = 1",
            "write 3 0 1 4 = SPENT; write 1 92 1 4 = SPENT; count 48 = OUTSIDE");
        Script.test("Terms 1: of 4 CELLS each: four CELLS are one BLOCK, a fifth is another",
            "write 0 0 4 7 = 4; many 0 = 47; write 0 4 1 8 = 5; many 0 = 46; write 0 7 1 9 = 8; many 0 = 46",
            "places 0 = 8: 0 1; cells 0 = 7*4 8 0*2 9");
        Script.test("Terms 1: a full DISK has 192 CELLS, all kept",
            FULL_DISK, "cells 0 = 1*96; cells 1 = 2*96; counts = 1*48");
    }

    private static void cells() {
        Script.test("Terms 1: CELLS are 0 .. 255",
            "write 0 0 1 0 = 1; write 0 1 1 255 = 2; write 0 2 1 256 = OUTSIDE; write 0 2 1 -1 = OUTSIDE",
            "write 0 2 1 1 = 3; write 0 3 1 254 = 4; cells 0 = 0 255 1 254");
        Script.test("Terms 1: a CELL that is 0 is in a BLOCK nonetheless, once it was written",
            "write 0 0 4 0 = 4; places 0 = 4: 0; seek 0 0 true = 0");
        Script.test("Terms 1: CELLS of a HOLE are 0", "cut 0 96 = 0; places 0 = 96:; cells 0 = 0*96");
    }

    private static void placesOfFiles() {
        Script.test("Terms 1: CELL i is in PLACE i by 4 (cut): 3 in 0, 4 in 1",
            "write 0 3 1 7 = 4; places 0 = 4: 0; write 0 4 1 8 = 5; places 0 = 5: 0 1");
        Script.test("Terms 1: CELL 91 is in PLACE 22, 92 and 95 in the last, 23",
            "write 0 91 1 5 = 92; block 0 22 = 0; block 0 23 = NONE",
            "write 0 95 1 6 = 96; block 0 23 = 1; write 0 92 1 7 = 96; block 0 23 = 1; ofFile 0 1 = 2",
            "cells 0 = 0*91 5 7 0*2 6");
        Script.test("Terms 1: SIZE is 0 .. 96",
            "ofFile 0 0 = 0; cut 0 96 = 0; ofFile 0 0 = 96; cut 0 97 = OUTSIDE; write 0 95 2 1 = OUTSIDE",
            "insert 0 0 1 = FULL; cut 0 0 = 96; ofFile 0 0 = 0; cut 0 -1 = OUTSIDE");
    }

    private static void behindSize() {
        Script.test("Terms 1: a PLACE all of whose CELLS are at SIZE is a HOLE, one with a CELL below it is not",
            "write 0 0 12 5 = 12; cut 0 9 = 12; places 0 = 9: 0 1 2; cut 0 8 = 9; places 0 = 8: 0 1",
            "cut 0 1 = 8; places 0 = 1: 0; cut 0 0 = 1; places 0 = 0:; many 0 = 48");
        Script.test("Terms 1: CELLS at SIZE or behind it are 0 when SIZE is more again",
            "write 0 0 12 5 = 12; cut 0 9 = 12; cut 0 12 = 9; cells 0 = 5*9 0*3",
            "cut 0 3 = 12; write 0 7 1 6 = 8; cells 0 = 5*3 0*4 6");
        Script.test("Terms 1: CELLS behind SIZE are 0 when PLACES are put in behind them",
            "write 0 0 8 5 = 8; cut 0 6 = 8; share 0 0 0 2 1 = 12; cells 0 = 5*6 0*2 5*4");
        Script.test("Terms 1: a BLOCK that was FREE again holds nothing of before",
            "write 0 0 4 9 = 4; cut 0 0 = 4; write 1 1 1 3 = 2; places 1 = 2: 0; cut 1 4 = 2; cells 1 = 0 3 0*2");
    }

    private static void counts() {
        Script.test("Terms 1: COUNT: none, one, two; only above 1 it is SHARED",
            "count 0 = 0; many 1 = 0; write 0 0 4 1; count 0 = 1; many 1 = 0; ofFile 0 2 = 0",
            "share 0 0 1 0 1; count 0 = 2; many 1 = 1; ofFile 0 2 = 1; ofFile 1 2 = 1",
            "cut 1 0; count 0 = 1; many 1 = 0; ofFile 0 2 = 0; cut 0 0; count 0 = 0; many 0 = 48");
        Script.test("Terms 1: COUNT of PLACES of one FILE",
            "write 0 0 4 1; share 0 0 0 23 1 = 96; count 0 = 2; ofFile 0 2 = 2; ofFile 0 1 = 2; many 0 = 47");
        Script.test("Terms 1: COUNT at most: all 96 PLACES of all FILES have one BLOCK",
            "write 0 0 4 7; share 0 0 0 1 1; share 0 0 0 2 2; share 0 0 0 4 4; share 0 0 0 8 8; share 0 0 0 16 8 = 96",
            "share 0 0 1 0 24 = 96; share 0 0 2 0 24 = 96; share 1 0 3 0 24 = 96",
            "count 0 = 96; many 0 = 47; many 1 = 1; ofFile 3 2 = 24; ofFile 3 3 = 24; cells 3 = 7*96",
            "range 0 2 = 0; range 0 3 = 1; range 0 4 = 96; write 3 95 1 8 = 96; count 0 = 95; count 1 = 1");
    }

    private static void runs() {
        Script.test("Terms 1: a RUN at the begin of the DISK, one at its end",
            FULL_DISK, "punch 0 0 4 = 1; punch 1 92 4 = 1; many 2 = 2",
            "range 0 0 = 0; range 0 1 = 1; range 1 0 = 47; range 1 1 = 1; range 2 0 = NONE");
        Script.test("Terms 1: RUNS: as many BLOCKS as may be",
            FULL_DISK, "punch 0 8 4 = 1; punch 0 16 4 = 1; many 2 = 2; punch 0 12 4 = 1; many 2 = 1",
            "range 0 0 = 2; range 0 1 = 3; range 1 0 = NONE");
        Script.test("Terms 1: a RUN goes on from the BLOCKS of one FILE to those of another",
            FULL_DISK, "punch 0 92 4 = 1; punch 1 0 4 = 1; many 2 = 1; range 0 0 = 23; range 0 1 = 2");
        Script.test("Terms 1: no RUN on a full DISK", FULL_DISK, "many 2 = 0; range 0 0 = NONE; range 0 1 = NONE");
        Script.test("Terms 1: as many RUNS as can be: 24",
            TWELVE_SINGLES, "punch 1 4 4; punch 1 12 4; punch 1 20 4; punch 1 28 4; punch 1 36 4; punch 1 44 4",
            "punch 1 52 4; punch 1 60 4; punch 1 68 4; punch 1 76 4; punch 1 84 4; punch 1 92 4",
            "many 0 = 24; many 2 = 24; many 3 = 24; range 0 0 = 1; range 23 0 = 47; range 23 1 = 1; range 24 0 = NONE",
            "range 23 2 = 46; range 23 3 = 1; range 24 2 = NONE; write 2 0 96 3 = 96",
            "places 2 = 96: 1 3 5 7 9 11 13 15 17 19 21 23 25 27 29 31 33 35 37 39 41 43 45 47; many 2 = 0");
    }

    private static void gotFromOneRun() {
        // RUNS: 2 .. 4, 8 .. 9, 12 .. 13, 20, 40 .. 43.
        String runs = FULL_DISK + "; punch 0 8 12 = 3; punch 0 32 8 = 2; punch 0 48 8 = 2; punch 0 80 4 = 1"
            + "; punch 1 64 16 = 4; many 2 = 5";
        Script.test("Terms 1: GOT: of the RUNS with n or more the one with the fewest: just n",
            runs, "write 2 0 4 3 = 4; places 2 = 4: 20");
        Script.test("Terms 1: GOT: of several with the fewest the first", runs, "write 2 0 8 3 = 8; places 2 = 8: 8 9");
        Script.test("Terms 1: GOT: a RUN behind the first ones, if it has the fewest",
            runs, "write 2 0 12 3 = 12; places 2 = 12: 2 3 4");
        Script.test("Terms 1: GOT: n is all of the greatest RUN",
            runs, "write 2 0 16 3 = 16; places 2 = 16: 40 41 42 43");
        Script.test("Terms 1: GOT: its first n, the rest of the RUN stays FREE",
            FULL_DISK, "punch 0 8 20 = 5; write 2 0 8 3 = 8; places 2 = 8: 2 3; range 0 0 = 4; range 0 1 = 3");
        Script.test("Terms 1: GOT: one more than the RUN that fits has: the next greater RUN",
            FULL_DISK, "punch 0 8 8 = 2; punch 0 24 12 = 3; write 2 0 12 3 = 12; places 2 = 12: 6 7 8; count 2 = 0");
        Script.test("Terms 1: GOT: all of an empty DISK's first 24",
            "write 3 0 96 1 = 96; block 3 0 = 0; block 3 23 = 23; piece 3 0 2 = 24; range 0 0 = 24; range 0 1 = 24");
    }

    private static void gotFromSeveralRuns() {
        Script.test("Terms 1: GOT: if no RUN has n: all of the RUN with the most (of several the first), then others",
            FULL_DISK, "punch 0 8 8 = 2; punch 0 24 8 = 2; punch 0 40 4 = 1",
            "write 2 0 12 3 = 12; places 2 = 12: 2 3 10; write 2 12 8 4 = 20; places 2 = 20: 2 3 10 6 7; many 0 = 0");
        Script.test("Terms 1: GOT: the others likewise: the fewest that suffice, not the most",
            FULL_DISK, "punch 0 0 4 = 1; punch 0 16 12 = 3; punch 0 40 16 = 4",
            "write 2 0 20 3 = 20; places 2 = 20: 10 11 12 13 0; range 0 0 = 4; range 0 1 = 3");
        Script.test("Terms 1: GOT: the others likewise: of a greater RUN its first ones, its rest stays FREE",
            FULL_DISK, "punch 0 16 12 = 3; punch 0 40 16 = 4; write 2 0 20 3 = 20; places 2 = 20: 10 11 12 13 4",
            "many 0 = 2; range 0 0 = 5; range 0 1 = 2; counts = 1*5 0*2 1*41");
        Script.test("Terms 1: GOT: the others likewise: of several the first, with the fewest and with the most",
            FULL_DISK, "punch 0 16 12 = 3; punch 0 32 12 = 3; punch 0 56 16 = 4; write 2 0 20 3 = 20",
            "places 2 = 20: 14 15 16 17 4",
            "cut 2 0 = 20; write 2 0 32 3 = 32; places 2 = 32: 14 15 16 17 4 5 6 8; many 0 = 2");
        Script.test("Terms 1: GOT: the others likewise: three RUNS, the most first each time",
            FULL_DISK, "punch 0 0 4 = 1; punch 0 16 8 = 2; punch 0 40 12 = 3",
            "write 2 0 24 3 = 24; places 2 = 24: 10 11 12 4 5 0; many 0 = 0");
        Script.test("Terms 1: GOT: the BLOCKS are given in the order in which they were GOT, not by their number",
            FULL_DISK, "punch 0 4 4 = 1; punch 1 64 12 = 3; write 2 0 16 3 = 16; places 2 = 16: 40 41 42 1");
        Script.test("Terms 1: GOT: from RUNS of one BLOCK each, in their order",
            TWELVE_SINGLES, "many 2 = 12; write 2 0 48 3 = 48; places 2 = 48: 1 3 5 7 9 11 13 15 17 19 21 23");
    }

    private static void gotOrSpent() {
        Script.test("Terms 1: just as many FREE BLOCKS as are wanted, in one RUN",
            FULL_DISK, "punch 0 8 12 = 3; write 2 0 12 3 = 12; places 2 = 12: 2 3 4; many 0 = 0");
        Script.test("Terms 1: one FREE BLOCK fewer than are wanted, in one RUN",
            FULL_DISK, "punch 0 8 12 = 3; write 2 0 13 3 = SPENT; write 2 3 10 3 = SPENT; places 2 = 0:; many 0 = 3");
        Script.test("Terms 1: just as many FREE BLOCKS as are wanted, in several RUNS",
            FULL_DISK,
            "punch 0 8 4 = 1; punch 0 24 4 = 1; punch 0 92 4 = 1; write 2 0 12 3 = 12; places 2 = 12: 2 6 23");
        Script.test("Terms 1: one FREE BLOCK fewer than are wanted, in several RUNS",
            FULL_DISK, "punch 0 8 4 = 1; punch 0 24 4 = 1; punch 0 92 4 = 1; write 2 0 13 3 = SPENT; many 0 = 3");
        Script.test("Terms 1: none wanted, none FREE",
            FULL_DISK, "write 0 0 96 3 = 96; cells 0 = 3*96; unshare 0 0 24 = 0; punch 0 1 2 = 0; cut 0 95 = 96");
        Script.test("Terms 1: one wanted, none FREE: SPENT",
            FULL_DISK, "write 2 0 1 3 = SPENT; write 2 95 1 3 = SPENT; ofFile 2 0 = 0");
        Script.test("Terms 1: twelve wanted, twelve RUNS of one; thirteen are SPENT",
            TWELVE_SINGLES, "write 2 0 49 3 = SPENT; write 2 0 48 3 = 48; many 0 = 0");
        Script.test("Terms 1: as many as can be wanted at once, 24: the DISK has just these",
            "write 0 0 96 1 = 96; many 0 = 24; write 1 0 96 2 = 96; many 0 = 0");
        Script.test("Terms 1: as many as can be wanted at once, 24: the DISK has one fewer",
            "write 0 0 96 1 = 96; write 2 0 1 2 = 1; many 0 = 23; write 1 0 96 2 = SPENT; write 1 0 92 2 = 92",
            "many 0 = 0");
    }

    private static void owning() {
        Script.test("Terms 1: OWN: only PLACES that have a SHARED BLOCK get another",
            "write 0 0 12 1; share 0 1 1 1 1 = 8; write 0 0 12 2 = 12; places 0 = 12: 0 3 2; places 1 = 8: . 1",
            "cells 1 = 0*4 1*4");
        Script.test("Terms 1: OWN: HOLES, too, where the call says so (writing), by number with the SHARED ones",
            "write 0 0 4 1; write 0 8 4 2; share 0 0 1 0 3 = 12; write 1 1 8 9 = 12",
            "places 1 = 12: 2 3 4; cells 1 = 1 9*8 2*3; cells 0 = 1*4 0*4 2*4");
        Script.test("Terms 1: OWN: no HOLES where the call does not say so (unshare)",
            "write 0 0 4 1; write 0 8 4 2; share 0 0 1 0 3 = 12; unshare 1 0 24 = 2; places 1 = 12: 2 . 3");
        Script.test("Terms 1: OWN: no HOLES where the call does not say so (punch, cut)",
            "cut 0 12 = 0; punch 0 1 2 = 0; cut 0 6 = 12; places 0 = 6:; many 0 = 48");
        Script.test("Terms 1: OWN: each has the CELLS then that were there",
            "write 0 0 1 1; write 0 1 1 2; write 0 2 1 3; write 0 3 1 4; share 0 0 1 0 1; unshare 1 0 1 = 1",
            "places 1 = 4: 1; cells 1 = 1 2 3 4; cells 0 = 1 2 3 4; count 0 = 1");
        Script.test("Terms 1: OWN: COUNTS as ahead of it: two PLACES with one BLOCK between them get two BLOCKS",
            "write 0 0 4 5; share 0 0 0 1 1 = 8; unshare 0 0 2 = 2; places 0 = 8: 1 2; cells 0 = 5*8; count 0 = 0");
        Script.test("Terms 1: OWN: one of two PLACES with one BLOCK: the other is not SHARED behind it",
            "write 0 0 4 5; share 0 0 0 1 1 = 8; unshare 0 1 1 = 1; places 0 = 8: 0 1; unshare 0 0 24 = 0");
        Script.test("Terms 1: OWN: two PLACES with one BLOCK want two: one FREE BLOCK is one fewer",
            FULL_DISK, "punch 0 4 4 = 1; share 0 0 0 1 1 = 96; many 0 = 1; unshare 0 0 2 = SPENT",
            "write 0 0 8 7 = SPENT; punch 0 3 2 = SPENT; count 0 = 2; punch 1 92 4 = 1; unshare 0 0 2 = 2",
            "block 0 0 = 1", "block 0 1 = 47; count 0 = 0");
        Script.test("Terms 1: OWN: a BLOCK that comes FREE by it is not GOT by it",
            "write 0 0 4 5; share 0 0 0 1 1; share 0 0 0 2 1; write 0 0 12 6 = 12; places 0 = 12: 1 2 3; count 0 = 0");
    }

    private static void writing() {
        Script.test("Terms 2: WRITING one CELL: the first, the last",
            "write 0 0 1 7 = 1; cells 0 = 7; write 1 95 1 8 = 96; cells 1 = 0*95 8; places 0 = 1: 0; ofFile 1 1 = 1");
        Script.test("Terms 2: WRITING all 96 CELLS of an empty FILE, of a full one",
            "write 0 0 96 7 = 96; cells 0 = 7*96; write 0 0 96 8 = 96; cells 0 = 8*96; many 0 = 24");
        Script.test("Terms 2: WRITING: SIZE stays, if it is not less: below it, up to it",
            "write 0 0 10 1 = 10; write 0 2 3 2 = 10; write 0 9 1 3 = 10; cells 0 = 1*2 2*3 1*4 3");
        Script.test("Terms 2: WRITING: SIZE becomes at and n, if it is less: by one CELL",
            "write 0 0 10 1 = 10; write 0 9 2 3 = 11; cells 0 = 1*9 3*2; write 0 11 1 4 = 12; cells 0 = 1*9 3*2 4");
        Script.test("Terms 2: WRITING behind SIZE: what is between is 0, and HOLES",
            "write 0 0 2 1 = 2; write 0 13 2 3 = 15; places 0 = 15: 0 . . 1; cells 0 = 1*2 0*11 3*2");
        Script.test("Terms 2: WRITING: CELLS ahead of at and behind at and n stay, also in its first and last PLACE",
            "write 0 0 16 1 = 16; write 0 3 6 2 = 16; cells 0 = 1*3 2*6 1*7");
        Script.test("Terms 2: WRITING: just the PLACES of these CELLS are OWNED",
            "write 0 0 16 1; share 0 0 1 0 4; write 1 4 8 2 = 16; places 1 = 16: 0 4 5 3; write 1 3 1 2 = 16",
            "places 1 = 16: 6 4 5 3; write 1 12 1 2 = 16; places 1 = 16: 6 4 5 7");
    }

    private static void punching() {
        Script.test("Terms 2: PUNCHING an empty FILE",
            "punch 0 0 96 = 0; punch 0 0 1 = 0; punch 0 95 1 = 0; places 0 = 0:");
        Script.test("Terms 2: PUNCHING a full FILE", "write 0 0 96 1; punch 0 0 96 = 24; places 0 = 96:; many 0 = 48");
        Script.test("Terms 2: PUNCHING just a PLACE; one CELL fewer at either end leaves it",
            "write 0 0 16 1; punch 0 4 3 = 0; punch 0 9 3 = 0; punch 0 12 4 = 1; places 0 = 16: 0 1 2",
            "cells 0 = 1*4 0*3 1*2 0*7");
        Script.test("Terms 2: PUNCHING a PLACE and one CELL more at both ends",
            "write 0 0 12 1; punch 0 3 6 = 1; places 0 = 12: 0 . 2; cells 0 = 1*3 0*6 1*3");
        Script.test("Terms 2: PUNCHING the last PLACE, all of its CELLS below SIZE: a HOLE",
            "write 0 0 6 1; punch 0 4 2 = 1; places 0 = 6: 0; cells 0 = 1*4 0*2");
        Script.test("Terms 2: PUNCHING the last PLACE, all but one of its CELLS below SIZE: none",
            "write 0 0 7 1; punch 0 4 2 = 0; punch 0 5 2 = 0; places 0 = 7: 0 1; write 1 0 7 1; punch 1 5 91 = 0",
            "cells 1 = 1*5 0*2; places 1 = 7: 2 3");
        Script.test("Terms 2: PUNCHING as far as they are less than SIZE: from SIZE on nothing",
            "write 0 0 6 1; punch 0 6 90 = 0; punch 0 6 1 = 0; cells 0 = 1*6; punch 0 5 91 = 0; cells 0 = 1*5 0",
            "punch 0 4 92 = 1; places 0 = 6: 0; ofFile 0 0 = 6");
        Script.test("Terms 2: PUNCHING: HOLES are none that have BLOCKS no more",
            "cut 0 12; write 0 4 4 1; punch 0 0 12 = 1; punch 0 0 12 = 0; places 0 = 12:");
        Script.test("Terms 2: PUNCHING a whole PLACE that is SHARED: it needs no BLOCK, and the other keeps it",
            FULL_DISK, "share 0 0 2 0 2 = 8; punch 2 0 4 = 1; places 2 = 8: . 1; count 0 = 1; read 0 0 = 1");
        Script.test("Terms 2: PUNCHING a part of a SHARED PLACE with none FREE, with one",
            FULL_DISK,
            "share 0 0 2 0 2 = 8; punch 2 0 3 = SPENT; punch 2 0 5 = SPENT; punch 1 92 4 = 1; punch 2 0 5 = 1",
            "places 2 = 8: . 47; cells 2 = 0*5 1*3; cells 0 = 1*96");
        Script.test("Terms 2: PUNCHING parts of two SHARED PLACES with one FREE, with two",
            FULL_DISK,
            "share 0 0 2 0 3 = 12; punch 1 92 4 = 1; punch 2 2 8 = SPENT; punch 1 80 4 = 1; punch 2 2 8 = 1",
            "places 2 = 12: 44 . 47; cells 2 = 1*2 0*8 1*2");
        Script.test("Terms 2: PUNCHING: OWNED ahead of all else: what becomes a HOLE is SHARED and not FREE yet",
            FULL_DISK,
            "punch 0 4 4 = 1; share 0 0 0 1 1 = 96; punch 0 3 5 = 1; block 0 0 = 1; block 0 1 = NONE; count 0 = 0");
        Script.test("Terms 2: PUNCHING: a BLOCK that would come FREE by it does not serve it",
            FULL_DISK, "share 0 0 2 0 1 = 4; punch 0 1 7 = SPENT; punch 0 4 4 = 1; punch 0 1 7 = 0; block 0 0 = 1");
    }

    private static void cutting() {
        Script.test("Terms 2: CUTTING to the same SIZE: nothing",
            "write 0 0 6 1; cut 0 6 = 6; places 0 = 6: 0 1; cells 0 = 1*6",
            "cut 1 0 = 0; write 2 0 96 3; cut 2 96 = 96; cells 2 = 3*96");
        Script.test("Terms 2: CUTTING to one less, to one more",
            "write 0 0 6 1; cut 0 5 = 6; cells 0 = 1*5; cut 0 6 = 5; cells 0 = 1*5 0");
        Script.test("Terms 2: CUTTING to 0, to 96",
            "write 0 0 96 1; cut 0 0 = 96; many 0 = 48; cut 0 96 = 0; many 0 = 48", "cells 0 = 0*96");
        Script.test("Terms 2: CUTTING to more gets no BLOCKS, also on a full DISK, also from within a PLACE",
            "write 0 0 96 1; write 1 0 94 2; cut 1 96 = 94; cells 1 = 2*94 0*2; cut 2 96 = 0; cut 3 1 = 0; many 0 = 0",
            "places 2 = 96:; places 3 = 1:");
        Script.test("Terms 2: CUTTING where PLACES begin needs no BLOCK: a full DISK, all SHARED",
            FULL_DISK, "share 0 0 2 0 24 = 96; cut 2 92 = 96; cut 2 4 = 92; cut 2 0 = 4; counts = 1*48");
        Script.test("Terms 2: CUTTING through a SHARED PLACE with none FREE, with one",
            FULL_DISK,
            "share 0 0 2 0 2 = 8; cut 2 7 = SPENT; cut 2 5 = SPENT; cut 2 1 = SPENT; punch 1 0 4 = 1; cut 2 1 = 8",
            "places 2 = 1: 24; cells 2 = 1; counts = 1*48");
        Script.test("Terms 2: CUTTING through a HOLE, through an own PLACE: needs none on a full DISK",
            FULL_DISK,
            "cut 2 8 = 0; cut 2 5 = 8; places 2 = 5:; cut 0 94 = 96; cut 0 93 = 94; cells 0 = 1*93; many 0 = 0");
        Script.test("Terms 2: CUTTING: BLOCKS behind that come FREE by it do not serve it",
            FULL_DISK, "share 0 0 2 0 1 = 4; cut 0 3 = SPENT; cut 0 4 = 96; cut 0 3 = 4; block 0 0 = 1; cells 2 = 1*4");
    }

    private static void collapsing() {
        Script.test("Terms 2: COLLAPSING: those behind come forward, SIZE is less by as many CELLS",
            "write 0 0 4 1; write 0 4 4 2; write 0 8 4 3; write 0 12 3 4; collapse 0 1 2 = 7; places 0 = 7: 0 3",
            "cells 0 = 1*4 4*3", "counts = 1 0*2 1 0*44");
        Script.test("Terms 2: COLLAPSING all but the last of 24 PLACES",
            "write 0 0 92 1; write 0 92 4 2; collapse 0 0 23 = 4; places 0 = 4: 23; cells 0 = 2*4; many 0 = 47");
        Script.test("Terms 2: COLLAPSING all but one CELL in the last PLACE",
            "write 0 0 93 1; collapse 0 0 23 = 1; places 0 = 1: 23; cells 0 = 1");
        Script.test("Terms 2: COLLAPSING HOLES, and ahead of HOLES",
            "cut 0 16; write 0 4 4 1; collapse 0 2 1 = 12; places 0 = 12: . 0; collapse 0 0 1 = 8; places 0 = 8: 0",
            "collapse 0 0 1 = 4; places 0 = 4:; many 0 = 48");
        Script.test("Terms 2: COLLAPSING SHARED PLACES: the others keep the BLOCKS",
            "write 0 0 12 1; share 0 0 1 0 3; collapse 1 0 2 = 4; places 1 = 4: 2; places 0 = 12: 0 1 2; count 0 = 1",
            "count 2 = 2");
    }

    private static void inserting() {
        Script.test("Terms 2: INSERTING ahead of the first PLACE, ahead of the last",
            "write 0 0 4 1; write 0 4 2 2; insert 0 0 1 = 10; places 0 = 10: . 0 1; insert 0 2 1 = 14",
            "places 0 = 14: . 0 . 1", "cells 0 = 0*4 1*4 0*4 2*2");
        Script.test("Terms 2: INSERTING as many as may be: 23 ahead of one PLACE",
            "write 0 0 4 1; insert 0 0 23 = 96; block 0 23 = 0; ofFile 0 1 = 1; cells 0 = 0*92 1*4");
        Script.test("Terms 2: INSERTING as many as may be: 23 ahead of one CELL",
            "write 0 0 1 1; insert 0 0 23 = 93; block 0 23 = 0; cells 0 = 0*92 1");
        Script.test("Terms 2: INSERTING gets no BLOCKS",
            FULL_DISK, "cut 2 1 = 0; insert 2 0 23 = 93; places 2 = 93:; many 0 = 0");
    }

    private static void sharing() {
        Script.test("Terms 2: SHARING gets no BLOCKS: on a full DISK",
            FULL_DISK, "share 0 0 2 0 24 = 96; counts = 2*24 1*24; cells 2 = 1*96");
        Script.test("Terms 2: SHARING HOLES: BLOCKS that were there come FREE",
            "cut 0 8; write 1 0 8 2; share 0 0 1 0 2 = 8; places 1 = 8:; many 0 = 48; cells 1 = 0*8");
        Script.test("Terms 2: SHARING what is SHARED already changes nothing",
            "write 0 0 8 1; share 0 0 1 0 2 = 8; share 0 0 1 0 2 = 8; share 1 0 0 0 2 = 8; counts = 2*2 0*46");
        Script.test("Terms 2: SHARING within one FILE: side by side they do not meet, either way",
            "write 0 0 4 1; write 0 4 4 2; share 0 0 0 2 2 = 16; places 0 = 16: 0 1 0 1",
            "write 0 8 4 3; write 0 12 4 4; places 0 = 16: 0 1 2 3; share 0 2 0 0 2 = 16; places 0 = 16: 2 3 2 3");
        Script.test("Terms 2: SHARING within one FILE: they meet in one PLACE, either way",
            "write 0 0 16 1; share 0 0 0 1 2 = STATE; share 0 1 0 0 2 = STATE; share 0 3 0 3 1 = STATE",
            "share 0 0 0 3 4 = STATE; share 0 0 0 4 4 = 32; share 0 3 0 0 4 = STATE; share 0 4 0 0 4 = 32");
    }

    private static void failure() {
        String two = "write 0 0 96 1; write 1 0 96 2";
        Script.test("Terms 3: a FAILURE at k, k STEPS in all: there are no more, so it is not DOWN",
            two, "failure 3; exchange 0 0 1 0 3 = 3; many 4 = 0; many 5 = 0; mount true = STATE; mount false = STATE",
            "failure NONE = NONE");
        Script.test("Terms 3: a FAILURE at k, one STEP more: DOWN behind k",
            two, "failure 3; exchange 0 0 1 0 4 = 3; many 4 = 1; many 5 = 1",
            "block 0 2 = 26; block 0 3 = 3; block 1 2 = 2; block 1 3 = 27");
        Script.test("Terms 3: a FAILURE at k, one STEP fewer: not DOWN",
            two, "failure 3; exchange 0 0 1 0 2 = 2; many 4 = 0; failure NONE = NONE");
        Script.test("Terms 3: a FAILURE at 0: DOWN behind no STEP",
            two, "failure 0; exchange 0 0 1 0 1 = 0; many 4 = 1; many 5 = 1; cells 0 = 1*96; cells 1 = 2*96");
        Script.test("Terms 3: a FAILURE at 23, of 24 STEPS",
            two,
            "failure 23; exchange 0 0 1 0 24 = 23; many 4 = 1; many 5 = 1; cells 0 = 2*92 1*4; cells 1 = 1*92 2*4");
        Script.test("Terms 3: a FAILURE at 23, of 23 STEPS",
            two, "failure 23; exchange 0 0 1 0 23 = 23; many 4 = 0; cells 0 = 2*92 1*4");
        Script.test("Terms 3: the FAILURE is NONE at first: all 24 STEPS",
            two, "exchange 0 0 1 0 24 = 24; many 4 = 0; cells 0 = 2*96");
        Script.test("Terms 3: the FAILURE is NONE behind each EXCHANGE: whole, not reached, DOWN",
            two, "exchange 0 0 1 0 1 = 1; failure 5 = NONE; exchange 0 0 1 0 2 = 2; failure 1 = NONE",
            "exchange 0 0 1 0 2 = 1; mount false = 1; failure 0 = NONE; exchange 0 0 1 0 24 = 0; mount true = 24",
            "failure NONE = NONE; exchange 0 0 1 0 24 = 24");
        Script.test("Terms 3: a refused EXCHANGE changes nothing: the FAILURE stays",
            "write 0 0 8 1; write 1 0 8 2; failure 1; exchange 0 0 1 0 3 = STATE; exchange 0 0 0 1 2 = STATE",
            "exchange 4 0 1 0 1 = UNKNOWN; exchange 0 0 1 24 1 = OUTSIDE; failure 1 = 1; exchange 0 0 1 0 2 = 1",
            "many 4 = 1");
    }

    private static void mounted() {
        String three = "write 0 0 16 1; write 1 0 12 2; failure ";
        Script.test("Terms 3: what is told is how it lies when it is DOWN",
            three + "1; exchange 0 1 1 0 3 = 1; places 0 = 16: 0 4 2 3; places 1 = 12: 1 5 6; cells 0 = 1*4 2*4 1*8",
            "ofFile 0 3 = 3; piece 0 1 1 = 4; seek 0 0 true = 0; count 4 = 1; read 1 3 = 1; read 1 4 = 2");
        Script.test("Terms 3: MOUNTED forward: all other STEPS are done, from the first not done on",
            three + "1; exchange 0 1 1 0 3 = 1; mount true = 2; places 0 = 16: 0 4 5 6; places 1 = 12: 1 2 3",
            "many 4 = 0");
        Script.test("Terms 3: MOUNTED backward: those that were done are undone",
            three + "2; exchange 0 1 1 0 3 = 2; mount false = 2; places 0 = 16: 0 1 2 3; places 1 = 12: 4 5 6",
            "many 4 = 0");
        Script.test("Terms 3: MOUNTED backward with no STEP done: 0, and not DOWN",
            three + "0; exchange 0 1 1 0 3 = 0; mount false = 0; many 4 = 0; many 5 = 0; places 0 = 16: 0 1 2 3",
            "cut 0 8 = 16");
        Script.test("Terms 3: MOUNTED forward with no STEP done: all of them",
            three + "0; exchange 0 1 1 0 3 = 0; many 5 = 3; mount true = 3; places 0 = 16: 0 4 5 6",
            "places 1 = 12: 1 2 3");
        Script.test("Terms 3: MOUNTED forward with one STEP left",
            three + "2; exchange 0 1 1 0 3 = 2; many 5 = 1; mount true = 1; places 0 = 16: 0 4 5 6",
            "places 1 = 12: 1 2 3");
        Script.test("Terms 3: an EXCHANGE within one FILE, DOWN, MOUNTED forward",
            "write 0 0 16 1; failure 1; exchange 0 0 0 2 2 = 1; places 0 = 16: 2 1 0 3; mount true = 1",
            "places 0 = 16: 2 3 0 1");
        Script.test("Terms 3: an EXCHANGE within one FILE, DOWN, MOUNTED backward",
            "write 0 0 16 1; failure 1; exchange 0 2 0 0 2 = 1; places 0 = 16: 2 1 0 3; mount false = 1",
            "places 0 = 16: 0 1 2 3");
        Script.test("Terms 3: an EXCHANGE of HOLES and SHARED BLOCKS, MOUNTED backward: as it was",
            "write 0 0 4 1; cut 0 12; write 1 0 12 2; share 1 0 0 2 1 = 12; failure 2; exchange 0 0 1 0 3 = 2",
            "places 0 = 12: 1 2 1; places 1 = 12: 0 . 3; mount false = 2; places 0 = 12: 0 . 1; places 1 = 12: 1 2 3");
        Script.test("Terms 3: behind a mount a second EXCHANGE has a LOG of its own",
            three + "2; exchange 0 0 1 0 3 = 2; mount false = 2; failure 1; exchange 1 1 0 2 2 = 1; many 5 = 1",
            "places 0 = 16: 0 1 5 3; places 1 = 12: 4 2 6; mount true = 1; places 0 = 16: 0 1 5 6",
            "places 1 = 12: 4 2 3");
    }

    private static void pieces() {
        Script.test("Terms 4: a PIECE: as many as may be: a whole FILE, one PLACE",
            "write 0 0 96 1; ofFile 0 3 = 1; piece 0 0 2 = 24; write 1 0 1 1; ofFile 1 3 = 1; piece 1 0 2 = 1");
        Script.test("Terms 4: an empty FILE, one of HOLES alone: no PIECE",
            "ofFile 0 3 = 0; piece 0 0 0 = NONE; cut 0 96; ofFile 0 3 = 0; piece 0 0 0 = NONE; piece 0 0 1 = NONE",
            "piece 0 0 2 = NONE");
        Script.test("Terms 4: in that order: BLOCKS side by side the other way round are PIECES of one each",
            "write 0 0 8 1; exchange 0 0 0 1 1 = 1; places 0 = 8: 1 0; ofFile 0 3 = 2; piece 0 0 1 = 1",
            "piece 0 1 1 = 0; piece 0 1 2 = 1");
        Script.test("Terms 4: the same BLOCK twice: two PIECES",
            "write 0 0 4 1; share 0 0 0 1 1; ofFile 0 3 = 2; piece 0 1 0 = 1; piece 0 1 1 = 0");
        Script.test("Terms 4: PLACES side by side: a HOLE between BLOCKS side by side ends the PIECE",
            "write 0 0 4 1; write 0 8 4 1; places 0 = 12: 0 . 1; ofFile 0 3 = 2; piece 0 0 2 = 1; piece 0 1 0 = 2",
            "piece 0 1 1 = 1");
        Script.test("Terms 4: BLOCKS side by side: a BLOCK left out ends the PIECE",
            "write 0 0 12 1; collapse 0 1 1 = 8; places 0 = 8: 0 2; ofFile 0 3 = 2; piece 0 1 0 = 1; piece 0 1 1 = 2");
        Script.test("Terms 4: as many PIECES as can be: 24",
            "write 0 0 4 1; share 0 0 0 1 1; share 0 0 0 2 2; share 0 0 0 4 4; share 0 0 0 8 8; share 0 0 0 16 8",
            "ofFile 0 3 = 24; piece 0 23 0 = 23; piece 0 23 1 = 0; piece 0 23 2 = 1; piece 0 24 0 = OUTSIDE");
        Script.test("Terms 4: a PIECE that ends with the last PLACE, with the last BLOCK",
            FULL_DISK, "piece 1 0 0 = 0; piece 1 0 1 = 24; piece 1 0 2 = 24; piece 1 1 0 = NONE");
    }

    private static void bands() {
        Script.test("Terms 4: a BAND: as many as may be: the whole DISK; none on an empty DISK",
            "many 3 = 0; range 0 2 = NONE; range 0 3 = NONE; range 0 4 = NONE", FULL_DISK,
            "many 3 = 1; range 0 2 = 0; range 0 3 = 48; range 0 4 = 1; range 1 2 = NONE");
        Script.test("Terms 4: with one COUNT: another COUNT begins another BAND",
            FULL_DISK, "share 0 10 2 0 2 = 8; share 0 11 3 0 1 = 4; many 3 = 4",
            "range 0 2 = 0; range 0 3 = 10; range 0 4 = 1; range 1 2 = 10; range 1 3 = 1; range 1 4 = 2",
            "range 2 2 = 11; range 2 3 = 1; range 2 4 = 3; range 3 2 = 12; range 3 3 = 36; range 3 4 = 1",
            "range 4 2 = NONE");
        Script.test("Terms 4: COUNT above 0: FREE BLOCKS end a BAND and are none",
            FULL_DISK,
            "punch 0 40 4 = 1; many 3 = 2; range 0 3 = 10; range 1 2 = 11; range 1 3 = 37; range 2 2 = NONE");
        Script.test("Terms 4: BANDS of one BLOCK at both ends of the DISK",
            FULL_DISK,
            "share 0 0 2 0 1 = 4; share 1 23 2 1 1 = 8; many 3 = 3; range 0 2 = 0; range 0 3 = 1; range 0 4 = 2",
            "range 1 2 = 1; range 1 3 = 46; range 1 4 = 1; range 2 2 = 47; range 2 3 = 1; range 2 4 = 2",
            "range 3 4 = NONE");
        Script.test("Terms 4: as many BANDS as can be: 48",
            FULL_DISK,
            "share 0 0 2 0 1; share 0 2 2 1 1; share 0 4 2 2 1; share 0 6 2 3 1; share 0 8 2 4 1; share 0 10 2 5 1",
            "share 0 12 2 6 1; share 0 14 2 7 1; share 0 16 2 8 1; share 0 18 2 9 1; share 0 20 2 10 1",
            "share 0 22 2 11 1",
            "share 1 0 3 0 1; share 1 2 3 1 1; share 1 4 3 2 1; share 1 6 3 3 1; share 1 8 3 4 1; share 1 10 3 5 1",
            "share 1 12 3 6 1; share 1 14 3 7 1; share 1 16 3 8 1; share 1 18 3 9 1; share 1 20 3 10 1",
            "share 1 22 3 11 1",
            "many 3 = 48; many 1 = 24; range 47 2 = 47; range 47 3 = 1; range 47 4 = 1; range 46 2 = 46",
            "range 46 4 = 2", "range 0 4 = 2; range 48 2 = OUTSIDE");
    }

    private static void lastCall() {
        Script.test("An object is used for at most 512 calls: the last one is carried out as the first",
            "write 0 0 96 1 = 96; collapse 0 0 23 = 4; insert 0 0 23 = 96; ".repeat(170)
                + "write 1 0 4 7 = 4; cut 0 0 = 96");
    }
}
