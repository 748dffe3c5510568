/** Promises 10 to 12 (failure, exchange, mount): every range at both ends, every refusal, and their order. */
public final class EdgesOfExchangesTest {
    private static final String FULL_DISK = Scenes.FULL_DISK;
    private static final String NONE_FREE = Scenes.NONE_FREE;
    private static final String MIXED = Scenes.MIXED;
    private static final String DOWN = Scenes.DOWN;

    private EdgesOfExchangesTest() {
    }

    public static void main(String[] args) {
        failureRanges();
        failureRefusals();
        exchangeRanges();
        exchangeState();
        exchangeOrder();
        exchangeSteps();
        mount();
        whileDown();
        Script.end();
    }

    private static void failureRanges() {
        Script.test("10 failure: k is 0 .. 23: 0, and one less",
            "failure -1 = OUTSIDE; failure 0 = NONE; failure -1 = OUTSIDE; failure NONE = 0");
        Script.test("10 failure: k is 0 .. 23: 23, and one more",
            "failure 24 = OUTSIDE; failure 23 = NONE; failure 24 = OUTSIDE; failure NONE = 23");
        Script.test("10 failure: or NONE, -9: the numbers beside it are not",
            "failure 3 = NONE; failure -8 = OUTSIDE; failure -10 = OUTSIDE; failure -9 = 3; failure NONE = NONE");
        Script.test("10 failure: the least and the greatest int",
            "failure 7; failure LOW = OUTSIDE; failure HIGH = OUTSIDE; failure 7 = 7");
        Script.test("10 failure: other answers' numbers are none",
            "failure -2 = OUTSIDE; failure -3 = OUTSIDE; failure -4 = OUTSIDE; failure -6 = OUTSIDE",
            "failure NONE = NONE");
        Script.test("10 failure: it answers what it was",
            "failure 5 = NONE; failure 5 = 5; failure 0 = 5; failure 23 = 0; failure NONE = 23; failure 1 = NONE");
        Script.test("10 failure: it is for the next EXCHANGE alone, and the last one set counts",
            FULL_DISK, "failure 5; failure 2 = 5; exchange 0 0 1 0 8 = 2; mount true = 6; exchange 0 0 1 0 8 = 8");
        Script.test("10 failure: NONE takes it back",
            FULL_DISK, "failure 5; failure NONE = 5; exchange 0 0 1 0 24 = 24; many 4 = 0");
        Script.test("10 failure: other calls leave it",
            "failure 4; write 0 0 9 1; cut 0 12; punch 0 0 1; collapse 0 0 1; insert 0 0 1; share 0 0 1 0 1",
            "unshare 1 0 24", "failure NONE = 4");
    }

    private static void failureRefusals() {
        Script.test("10 failure: STATE: it is DOWN",
            DOWN, "failure 0 = STATE; failure 23 = STATE; failure NONE = STATE; mount true = 1; failure 3 = NONE",
            "failure NONE = 3");
        Script.test("10 failure: OUTSIDE ahead of STATE",
            DOWN, "failure 24 = OUTSIDE; failure -1 = OUTSIDE; failure -10 = OUTSIDE; failure LOW = OUTSIDE",
            "failure HIGH = OUTSIDE");
    }

    private static void exchangeRanges() {
        Script.test("11 exchange: FILES 0 .. 3, both",
            "write 0 0 4 1; write 3 0 4 2; exchange 0 0 3 0 1 = 1; places 0 = 4: 1; exchange 3 0 0 0 1 = 1",
            "places 0 = 4: 0; places 3 = 4: 1");
        Script.test("11 exchange: UNKNOWN: f is -1, 4, the least, the greatest int",
            MIXED, "exchange -1 0 1 0 1 = UNKNOWN; exchange 4 0 1 0 1 = UNKNOWN; exchange LOW 0 1 0 1 = UNKNOWN",
            "exchange HIGH 0 1 0 1 = UNKNOWN");
        Script.test("11 exchange: UNKNOWN: g is -1, 4, the least, the greatest int",
            MIXED, "exchange 0 0 -1 0 1 = UNKNOWN; exchange 0 0 4 0 1 = UNKNOWN; exchange 0 0 LOW 0 1 = UNKNOWN",
            "exchange 0 0 HIGH 0 1 = UNKNOWN; exchange 4 0 4 0 1 = UNKNOWN");
        Script.test("11 exchange: p is 0 .. 23: 0, and one less",
            FULL_DISK,
            "exchange 0 -1 1 0 1 = OUTSIDE; exchange 0 LOW 1 0 1 = OUTSIDE; exchange 0 0 1 5 1 = 1; block 0 0 = 29",
            "block 1 5 = 0");
        Script.test("11 exchange: p is 0 .. 23: 23, and one more",
            FULL_DISK, "exchange 0 24 1 0 1 = OUTSIDE; exchange 0 24 1 0 0 = OUTSIDE; exchange 0 HIGH 1 0 1 = OUTSIDE",
            "exchange 0 23 1 5 1 = 1; block 0 23 = 29; block 1 5 = 23");
        Script.test("11 exchange: q is 0 .. 23: 0, and one less",
            FULL_DISK,
            "exchange 0 5 1 -1 1 = OUTSIDE; exchange 0 5 1 LOW 1 = OUTSIDE; exchange 0 5 1 0 1 = 1; block 0 5 = 24",
            "block 1 0 = 5");
        Script.test("11 exchange: q is 0 .. 23: 23, and one more",
            FULL_DISK, "exchange 0 5 1 24 1 = OUTSIDE; exchange 0 5 1 24 0 = OUTSIDE; exchange 0 5 1 HIGH 1 = OUTSIDE",
            "exchange 0 5 1 23 1 = 1; block 0 5 = 47; block 1 23 = 5");
        Script.test("11 exchange: n is 1 ..: 1, and one less",
            FULL_DISK, "exchange 0 5 1 5 0 = OUTSIDE; exchange 0 5 1 5 -1 = OUTSIDE; exchange 0 5 1 5 LOW = OUTSIDE",
            "exchange 0 23 1 23 LOW = OUTSIDE; exchange 0 5 1 5 1 = 1");
        Script.test("11 exchange: n is .. 24 less the greater of both: both 0",
            FULL_DISK, "exchange 0 0 1 0 25 = OUTSIDE; exchange 0 0 1 0 HIGH = OUTSIDE; exchange 0 0 1 0 24 = 24",
            "piece 0 0 1 = 24; piece 0 0 2 = 24; cells 1 = 1*96");
        Script.test("11 exchange: n is .. 24 less the greater of both: p is",
            FULL_DISK, "exchange 0 20 1 3 5 = OUTSIDE; exchange 0 20 1 3 HIGH = OUTSIDE; exchange 0 20 1 3 4 = 4",
            "cells 0 = 1*80 2*16; cells 1 = 2*12 1*16 2*68");
        Script.test("11 exchange: n is .. 24 less the greater of both: q is",
            FULL_DISK, "exchange 0 3 1 20 5 = OUTSIDE; exchange 0 3 1 20 HIGH = OUTSIDE; exchange 0 3 1 20 4 = 4",
            "cells 0 = 1*12 2*16 1*68; cells 1 = 2*80 1*16");
        Script.test("11 exchange: n is .. 24 less the greater of both: both 23",
            FULL_DISK, "exchange 0 23 1 23 2 = OUTSIDE; exchange 0 23 1 23 HIGH = OUTSIDE; exchange 0 23 1 23 1 = 1",
            "block 0 23 = 47; block 1 23 = 23");
    }

    private static void exchangeState() {
        Script.test("11 exchange: STATE: some CELLS of f are not below SIZE: one CELL, a PLACE, all",
            "write 0 0 7 1; write 1 0 96 2; exchange 0 0 1 0 2 = STATE; exchange 0 1 1 0 1 = STATE",
            "exchange 0 0 1 0 3 = STATE; exchange 0 9 1 0 1 = STATE",
            "exchange 0 0 1 0 1 = 1; cut 0 8 = 7; exchange 0 0 1 0 2 = 2");
        Script.test("11 exchange: STATE: some CELLS of g are not below SIZE: one CELL, a PLACE, all",
            "write 0 0 96 1; write 1 0 7 2; exchange 0 0 1 0 2 = STATE; exchange 0 0 1 1 1 = STATE",
            "exchange 0 0 1 0 3 = STATE; exchange 0 0 1 9 1 = STATE",
            "exchange 0 0 1 0 1 = 1; cut 1 8 = 7; exchange 0 0 1 0 2 = 2");
        Script.test("11 exchange: STATE: an empty FILE, as f, as g, as both",
            "write 0 0 96 1; exchange 1 0 0 0 1 = STATE; exchange 0 0 1 0 1 = STATE; exchange 1 0 2 0 1 = STATE",
            "exchange 1 0 1 1 1 = STATE");
        Script.test("11 exchange: STATE: within one FILE both ranges must be below SIZE",
            "write 0 0 15 1; exchange 0 0 0 3 1 = STATE; exchange 0 3 0 0 1 = STATE; exchange 0 0 0 2 1 = 1");
        Script.test("11 exchange: STATE: FILES are one and the PLACES meet: all, one at either end",
            MIXED, "exchange 0 1 0 1 2 = STATE; exchange 0 0 0 1 2 = STATE; exchange 0 1 0 0 2 = STATE",
            "exchange 0 0 0 2 3 = STATE; exchange 0 3 0 3 1 = STATE; failure NONE = 1");
        Script.test("11 exchange: FILES are one and the PLACES only touch, either way",
            "write 0 0 24 1; exchange 0 0 0 3 3 = 3; places 0 = 24: 3 4 5 0 1 2; exchange 0 4 0 2 2 = 2",
            "places 0 = 24: 3 4 1 2 5 0");
        Script.test("11 exchange: as many as can be within one FILE: 12",
            FULL_DISK,
            "exchange 0 0 0 12 12 = 12; exchange 0 0 0 11 12 = STATE; block 0 0 = 12; block 0 23 = 11; ofFile 0 3 = 2");
        Script.test("11 exchange: FILES are two: the same PLACES do not meet",
            "write 0 0 8 1; write 1 0 8 2; exchange 0 0 1 0 2 = 2; exchange 0 0 1 1 1 = 1; places 0 = 8: 1 3",
            "places 1 = 8: 0 2");
        Script.test("11 exchange: STATE: the house is DOWN",
            DOWN, "exchange 0 0 1 0 1 = STATE; exchange 2 0 3 0 1 = STATE; many 5 = 1; mount false = 1",
            "exchange 2 0 3 0 1 = 1");
    }

    private static void exchangeOrder() {
        Script.test("11 exchange: UNKNOWN (f, g) ahead of OUTSIDE (p, q, n)",
            MIXED, "exchange 4 24 0 0 1 = UNKNOWN; exchange 0 24 4 0 1 = UNKNOWN; exchange 0 0 -1 24 1 = UNKNOWN",
            "exchange -1 0 0 0 0 = UNKNOWN; exchange 0 0 4 0 25 = UNKNOWN");
        Script.test("11 exchange: UNKNOWN ahead of STATE",
            DOWN, "exchange 4 0 0 0 1 = UNKNOWN; exchange 0 0 4 0 1 = UNKNOWN; exchange -1 0 -1 0 1 = UNKNOWN");
        Script.test("11 exchange: OUTSIDE ahead of STATE: the house is DOWN",
            DOWN, "exchange 0 24 1 0 1 = OUTSIDE; exchange 0 0 1 24 1 = OUTSIDE; exchange 0 0 1 0 0 = OUTSIDE",
            "exchange 0 0 1 0 25 = OUTSIDE; exchange 0 0 1 20 5 = OUTSIDE");
        Script.test("11 exchange: OUTSIDE ahead of STATE: CELLS not below SIZE",
            "exchange 0 24 1 0 1 = OUTSIDE; exchange 0 0 1 23 2 = OUTSIDE; exchange 0 23 1 0 2 = OUTSIDE",
            "exchange 0 0 1 -1 1 = OUTSIDE");
        Script.test("11 exchange: OUTSIDE ahead of STATE: the PLACES meet",
            FULL_DISK, "exchange 0 0 0 1 24 = OUTSIDE; exchange 0 23 0 22 2 = OUTSIDE; exchange 0 24 0 24 1 = OUTSIDE",
            "exchange 0 5 0 5 0 = OUTSIDE");
        Script.test("11 exchange: no SPENT: it needs none FREE",
            NONE_FREE, "exchange 0 0 1 0 24 = 24; exchange 2 0 1 0 3 = 3; many 0 = 0; cells 2 = 1*12");
    }

    private static void exchangeSteps() {
        Script.test("11 exchange: it answers how many STEPS were done: one, all 24",
            FULL_DISK, "exchange 0 0 1 0 1 = 1; exchange 0 0 1 0 24 = 24");
        Script.test("11 exchange: it answers how many STEPS were done: none, behind a FAILURE at 0",
            FULL_DISK, "failure 0; exchange 0 0 1 0 24 = 0; many 5 = 24; mount true = 24; cells 0 = 2*96");
        Script.test("11 exchange: a FAILURE just at n, one below n",
            FULL_DISK,
            "failure 4; exchange 0 0 1 0 4 = 4; many 4 = 0; failure 4 = NONE; exchange 0 0 1 0 5 = 4; many 4 = 1",
            "many 5 = 1");
        Script.test("11 exchange: SIZES stay, CELLS go",
            "write 0 0 9 1; write 1 0 14 2; exchange 0 0 1 1 2 = 2; cells 0 = 2*8 1; cells 1 = 2*4 1*8 2*2");
        Script.test("11 exchange: HOLES with HOLES, HOLES with BLOCKS",
            "cut 0 8; cut 1 8; write 1 4 4 1; exchange 0 0 1 0 2 = 2; places 0 = 8: . 0; places 1 = 8:");
        Script.test("11 exchange: one BLOCK that both have",
            "write 0 0 4 1; share 0 0 1 0 1; exchange 0 0 1 0 1 = 1; places 0 = 4: 0; places 1 = 4: 0; count 0 = 2");
    }

    private static void mount() {
        Script.test("12 mount: STATE: it is not DOWN: new, behind a whole EXCHANGE, behind a mount",
            "mount true = STATE; mount false = STATE; write 0 0 8 1; exchange 0 0 0 1 1 = 1; mount true = STATE",
            "mount false = STATE",
            "failure 0; mount true = STATE; exchange 0 0 0 1 1 = 0; mount false = 0; mount false = STATE",
            "mount true = STATE");
        Script.test("12 mount: STATE: a FAILURE that is set, or was not reached, is not DOWN",
            FULL_DISK,
            "failure 2; mount true = STATE; mount false = STATE; exchange 0 0 1 0 2 = 2; mount true = STATE",
            "mount false = STATE");
        Script.test("12 mount: forward, how many STEPS that took: one, 24",
            FULL_DISK,
            "failure 23; exchange 0 0 1 0 24 = 23; mount true = 1; cells 0 = 2*96; failure 0; exchange 0 0 1 0 24 = 0",
            "mount true = 24; cells 0 = 1*96; cells 1 = 2*96");
        Script.test("12 mount: backward, how many STEPS that took: none, one, 23",
            FULL_DISK,
            "failure 0; exchange 0 0 1 0 24 = 0; mount false = 0; failure 1; exchange 0 0 1 0 24 = 1; mount false = 1",
            "failure 23; exchange 0 0 1 0 24 = 23; mount false = 23",
            "cells 0 = 1*96; cells 1 = 2*96; piece 0 0 2 = 24; piece 1 0 1 = 24");
        Script.test("12 mount: forward it is whole: as without a FAILURE",
            MIXED, "exchange 0 0 1 0 3 = 1; mount true = 2; places 0 = 24: . 0 1 3 . 4; places 1 = 12: 0 1 2",
            "counts = 2*2 1*4 0*42");
        Script.test("12 mount: backward it is not at all: as ahead of it",
            MIXED, "exchange 0 0 1 0 3 = 1; mount false = 1; places 0 = 24: 0 1 2 3 . 4; places 1 = 12: . 0 1",
            "counts = 2*2 1*4 0*42");
    }

    private static void whileDown() {
        Script.test("REFUSALS: when it is DOWN, each call that changes a FILE is refused, and nothing changes",
            DOWN, "write 0 0 1 1 = STATE; cut 0 24 = STATE; punch 0 0 1 = STATE; collapse 0 0 1 = STATE",
            "insert 0 0 1 = STATE; share 0 0 1 0 1 = STATE; unshare 0 0 1 = STATE; exchange 0 0 1 0 1 = STATE",
            "failure 0 = STATE", "mount true = 1; places 0 = 24: 0 . 0 3 . 4; places 1 = 12: 1 2 1");
        Script.test("REFUSALS: when it is DOWN, calls that would change nothing are refused, too",
            DOWN,
            "cut 3 9 = STATE; punch 3 0 9 = STATE; unshare 3 0 24 = STATE; punch 0 24 72 = STATE; mount false = 1",
            "cut 3 9 = 9; punch 3 0 9 = 0; unshare 3 0 24 = 0");
        Script.test("REFUSALS: when it is DOWN, calls that only tell are answered",
            DOWN, "read 0 0 = 1; ofFile 0 0 = 24; block 1 0 = 1; piece 1 0 1 = 1; seek 0 4 true = 8; count 1 = 2",
            "range 0 0 = 6; many 0 = 42; many 4 = 1; many 5 = 1");
        Script.test("REFUSALS: behind a mount they are carried out again",
            DOWN, "mount false = 1; write 0 0 1 9 = 24; cut 0 16 = 24; punch 0 4 4 = 1; collapse 0 1 1 = 12",
            "insert 0 1 1 = 16; share 0 0 2 0 1 = 8; unshare 2 0 1 = 1; exchange 0 0 2 0 1 = 1");
    }
}
