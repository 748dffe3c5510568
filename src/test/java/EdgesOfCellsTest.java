/** Promises 2 to 5 (read, write, cut, punch): every range at both ends, every refusal, and their order. */
public final class EdgesOfCellsTest {
    private static final String MIXED = Scenes.MIXED;
    private static final String DOWN = Scenes.DOWN;
    private static final String NONE_FREE = Scenes.NONE_FREE;
    private static final String ONE_FREE = Scenes.ONE_FREE;
    private static final String TWO_FREE = Scenes.TWO_FREE;
    private static final String DOWN_AND_NONE_FREE = Scenes.DOWN_AND_NONE_FREE;

    private EdgesOfCellsTest() {
    }

    public static void main(String[] args) {
        read();
        writeRanges();
        writeRefusals();
        writeSize();
        cutRanges();
        cutRefusals();
        punchRanges();
        punchRefusals();
        Script.end();
    }

    private static void read() {
        Script.test("2 read: FILE 0 .. 3", MIXED, "read 0 0 = 1; read 1 4 = 1; read 2 5 = 7; read 3 0 = 0");
        Script.test("2 read: UNKNOWN: FILE -1, 4, the least, the greatest int",
            MIXED, "read -1 0 = UNKNOWN; read 4 0 = UNKNOWN; read LOW 0 = UNKNOWN; read HIGH 0 = UNKNOWN");
        Script.test("2 read: i is 0 .. SIZE - 1: the first CELL, and one ahead of it",
            "write 0 0 9 5; read 0 0 = 5; read 0 -1 = OUTSIDE; read 0 LOW = OUTSIDE");
        Script.test("2 read: i is 0 .. SIZE - 1: the last CELL, and one behind it",
            "write 0 0 9 5; read 0 8 = 5; read 0 9 = OUTSIDE; read 0 11 = OUTSIDE; read 0 95 = OUTSIDE",
            "read 0 HIGH = OUTSIDE");
        Script.test("2 read: an empty FILE has no CELL",
            "read 0 0 = OUTSIDE; read 0 -1 = OUTSIDE; write 1 0 4 1; cut 1 0; read 1 0 = OUTSIDE");
        Script.test("2 read: a FILE of one CELL", "write 0 0 1 255; read 0 0 = 255; read 0 1 = OUTSIDE");
        Script.test("2 read: a full FILE", "write 0 0 96 9; read 0 0 = 9; read 0 95 = 9; read 0 96 = OUTSIDE");
        Script.test("2 read: a HOLE, and where it ends",
            "write 0 4 4 9; cut 0 12; read 0 3 = 0; read 0 4 = 9; read 0 7 = 9; read 0 8 = 0");
        Script.test("2 read: UNKNOWN ahead of OUTSIDE",
            "read 4 0 = UNKNOWN; read -1 -1 = UNKNOWN; read HIGH HIGH = UNKNOWN");
        Script.test("2 read: it is told also when the house is DOWN",
            DOWN, "read 0 4 = 0; read 1 0 = 1; read 0 24 = OUTSIDE");
    }

    private static void writeRanges() {
        Script.test("3 write: FILE 0 .. 3", "write 0 0 1 1 = 1; write 3 0 1 1 = 1");
        Script.test("3 write: UNKNOWN: FILE -1, 4, the least, the greatest int",
            MIXED,
            "write -1 0 1 1 = UNKNOWN; write 4 0 1 1 = UNKNOWN; write LOW 0 1 1 = UNKNOWN; write HIGH 0 1 1 = UNKNOWN");
        Script.test("3 write: at is 0 .. 95: 0, and one less",
            MIXED, "write 0 -1 1 9 = OUTSIDE; write 0 -1 2 9 = OUTSIDE; write 0 LOW 1 9 = OUTSIDE; write 0 0 1 9 = 24",
            "read 0 0 = 9");
        Script.test("3 write: at is 0 .. 95: 95, and one more",
            MIXED,
            "write 0 96 1 9 = OUTSIDE; write 0 96 0 9 = OUTSIDE; write 0 97 1 9 = OUTSIDE; write 0 HIGH 1 9 = OUTSIDE",
            "write 0 95 1 9 = 96; read 0 95 = 9");
        Script.test("3 write: n is 1 ..: 1, and one less",
            MIXED,
            "write 0 0 0 9 = OUTSIDE; write 0 0 -1 9 = OUTSIDE; write 0 5 -5 9 = OUTSIDE; write 0 0 LOW 9 = OUTSIDE",
            "write 0 95 LOW 9 = OUTSIDE", "write 0 0 1 9 = 24");
        Script.test("3 write: n is .. 96 less at: from 0 on",
            MIXED, "write 3 0 97 9 = OUTSIDE; write 3 0 HIGH 9 = OUTSIDE; write 3 0 96 9 = 96; cells 3 = 9*96");
        Script.test("3 write: n is .. 96 less at: from 1 on",
            MIXED, "write 3 1 96 9 = OUTSIDE; write 3 1 HIGH 9 = OUTSIDE; write 3 1 95 9 = 96; cells 3 = 0 9*95");
        Script.test("3 write: n is .. 96 less at: from 50 on",
            MIXED, "write 3 50 47 9 = OUTSIDE; write 3 50 HIGH 9 = OUTSIDE; write 3 50 46 9 = 96; cells 3 = 0*50 9*46");
        Script.test("3 write: n is .. 96 less at: from 95 on",
            MIXED,
            "write 3 95 2 9 = OUTSIDE; write 3 95 HIGH 9 = OUTSIDE; write 3 95 0 9 = OUTSIDE; write 3 95 1 9 = 96");
        Script.test("3 write: v is 0 .. 255: 0, and one less",
            MIXED, "write 0 0 1 -1 = OUTSIDE; write 0 0 1 LOW = OUTSIDE; write 0 0 1 0 = 24; read 0 0 = 0");
        Script.test("3 write: v is 0 .. 255: 255, and one more",
            MIXED, "write 0 0 1 256 = OUTSIDE; write 0 0 1 HIGH = OUTSIDE; write 0 0 1 255 = 24; read 0 0 = 255");
    }

    private static void writeRefusals() {
        Script.test("3 write: STATE: the house is DOWN",
            DOWN, "write 0 0 1 9 = STATE; write 3 0 96 9 = STATE; mount false = 1; write 3 0 96 9 = 96");
        Script.test("3 write: SPENT: a HOLE, with none FREE, with one",
            NONE_FREE, "write 3 0 4 9 = SPENT; write 2 12 1 9 = SPENT",
            "punch 1 40 4 = 1; write 3 0 4 9 = 4; places 3 = 4: 34");
        Script.test("3 write: SPENT: a SHARED PLACE, with none FREE, with one",
            NONE_FREE, "write 2 0 1 9 = SPENT; write 0 0 1 9 = SPENT",
            "punch 1 40 4 = 1; write 2 0 1 9 = 12; places 2 = 12: 34 1 2; write 0 0 1 8 = 96; cells 2 = 9 1*11");
        Script.test("3 write: SPENT: two SHARED PLACES, one FREE BLOCK: neither is OWNED",
            ONE_FREE, "write 2 3 2 9 = SPENT; places 2 = 12: 0 1 2; many 0 = 1");
        Script.test("3 write: SPENT: two SHARED PLACES, two FREE BLOCKS",
            TWO_FREE, "write 2 3 2 9 = 12; places 2 = 12: 34 47 2; cells 2 = 1*3 9*2 1*7; cells 0 = 1*96; many 0 = 0");
        Script.test("3 write: SPENT: a SHARED PLACE and a HOLE, one FREE BLOCK, two",
            ONE_FREE,
            "write 2 11 2 9 = SPENT; ofFile 2 0 = 12; punch 1 92 4 = 1; write 2 11 2 9 = 13; places 2 = 13: 0 1 34 47");
        Script.test("3 write: own PLACES need none",
            NONE_FREE, "write 0 12 84 9 = 96; write 1 0 96 9 = 96; write 0 11 2 9 = SPENT");
        Script.test("3 write: UNKNOWN ahead of OUTSIDE, STATE",
            DOWN,
            "write 4 96 1 1 = UNKNOWN; write 4 0 0 1 = UNKNOWN; write 4 0 1 256 = UNKNOWN; write -1 0 1 1 = UNKNOWN");
        Script.test("3 write: OUTSIDE ahead of STATE",
            DOWN,
            "write 0 96 1 1 = OUTSIDE; write 0 -1 1 1 = OUTSIDE; write 0 0 0 1 = OUTSIDE; write 0 0 97 1 = OUTSIDE",
            "write 0 0 1 256 = OUTSIDE; write 0 0 1 -1 = OUTSIDE");
        Script.test("3 write: UNKNOWN, OUTSIDE ahead of SPENT",
            NONE_FREE,
            "write 4 0 1 1 = UNKNOWN; write 3 0 97 1 = OUTSIDE; write 3 0 1 256 = OUTSIDE; write 3 96 1 1 = OUTSIDE");
        Script.test("3 write: STATE ahead of SPENT",
            DOWN_AND_NONE_FREE, "write 3 0 1 1 = STATE; write 2 0 1 1 = STATE; mount true = 1",
            "write 3 0 1 1 = SPENT");
    }

    private static void writeSize() {
        Script.test("3 write: it answers SIZE then: grown",
            "write 0 10 3 1 = 13; ofFile 0 0 = 13; write 0 12 2 1 = 14");
        Script.test("3 write: it answers SIZE then: as it was",
            "write 0 0 50 1 = 50; write 0 10 3 1 = 50; write 0 49 1 1 = 50");
        Script.test("3 write: it answers SIZE then: the greatest",
            "write 0 95 1 1 = 96; write 0 0 1 1 = 96; write 0 0 96 1 = 96");
    }

    private static void cutRanges() {
        Script.test("4 cut: FILE 0 .. 3", "cut 0 1 = 0; cut 3 1 = 0; ofFile 0 0 = 1; ofFile 3 0 = 1");
        Script.test("4 cut: UNKNOWN: FILE -1, 4, the least, the greatest int",
            MIXED, "cut -1 0 = UNKNOWN; cut 4 0 = UNKNOWN; cut LOW 0 = UNKNOWN; cut HIGH 0 = UNKNOWN");
        Script.test("4 cut: size is 0 .. 96: 0, and one less",
            MIXED, "cut 0 -1 = OUTSIDE; cut 0 LOW = OUTSIDE; cut 0 0 = 24; ofFile 0 0 = 0");
        Script.test("4 cut: size is 0 .. 96: 96, and one more",
            MIXED, "cut 0 97 = OUTSIDE; cut 0 HIGH = OUTSIDE; cut 0 96 = 24; ofFile 0 0 = 96");
        Script.test("4 cut: it answers what SIZE was: of an empty FILE, of a full one",
            "cut 0 0 = 0; cut 0 5 = 0; cut 0 5 = 5; write 0 95 1 1; cut 0 96 = 96; cut 0 0 = 96; cut 0 0 = 0");
    }

    private static void cutRefusals() {
        Script.test("4 cut: STATE: the house is DOWN: to less, to more, to the same",
            DOWN, "cut 0 0 = STATE; cut 0 96 = STATE; cut 0 24 = STATE; mount true = 1; cut 0 24 = 24");
        Script.test("4 cut: SPENT: through a SHARED PLACE, none FREE, one",
            NONE_FREE, "cut 2 9 = SPENT; cut 0 1 = SPENT; cut 2 11 = SPENT",
            "punch 1 40 4 = 1; cut 2 9 = 12; places 2 = 9: 0 1 34; cells 2 = 1*9; cells 0 = 1*96");
        Script.test("4 cut: no SPENT where no PLACE is cut through",
            NONE_FREE, "cut 2 8 = 12; cut 0 4 = 96; cut 2 96 = 8; cut 2 8 = 96");
        Script.test("4 cut: UNKNOWN ahead of OUTSIDE, STATE",
            DOWN, "cut 4 97 = UNKNOWN; cut -1 -1 = UNKNOWN; cut 4 0 = UNKNOWN");
        Script.test("4 cut: OUTSIDE ahead of STATE", DOWN, "cut 0 97 = OUTSIDE; cut 0 -1 = OUTSIDE");
        Script.test("4 cut: UNKNOWN, OUTSIDE where others are SPENT",
            NONE_FREE, "cut 4 9 = UNKNOWN; cut 2 -3 = OUTSIDE; cut 2 9 = SPENT");
        Script.test("4 cut: STATE ahead of SPENT",
            DOWN_AND_NONE_FREE, "cut 2 9 = STATE; mount false = 0; cut 2 9 = SPENT");
    }

    private static void punchRanges() {
        Script.test("5 punch: FILE 0 .. 3",
            "write 0 0 4 1; write 3 0 4 1; punch 0 0 4 = 1; punch 3 0 4 = 1; many 0 = 48");
        Script.test("5 punch: UNKNOWN: FILE -1, 4, the least, the greatest int",
            MIXED, "punch -1 0 1 = UNKNOWN; punch 4 0 1 = UNKNOWN; punch LOW 0 1 = UNKNOWN; punch HIGH 0 1 = UNKNOWN");
        Script.test("5 punch: at is 0 .. 95: 0, and one less",
            MIXED,
            "punch 0 -1 1 = OUTSIDE; punch 0 -1 2 = OUTSIDE; punch 0 LOW 1 = OUTSIDE; punch 0 0 1 = 0; read 0 0 = 0",
            "read 0 1 = 1");
        Script.test("5 punch: at is 0 .. 95: 95, and one more",
            "write 0 0 96 1; punch 0 96 1 = OUTSIDE; punch 0 96 0 = OUTSIDE; punch 0 97 1 = OUTSIDE",
            "punch 0 HIGH 1 = OUTSIDE", "punch 0 95 1 = 0; cells 0 = 1*95 0");
        Script.test("5 punch: n is 1 ..: 1, and one less",
            MIXED, "punch 0 4 0 = OUTSIDE; punch 0 4 -1 = OUTSIDE; punch 0 4 LOW = OUTSIDE; punch 0 95 LOW = OUTSIDE",
            "punch 0 4 1 = 0; read 0 4 = 0; read 0 5 = 1");
        Script.test("5 punch: n is .. 96 less at: from 0 on",
            MIXED, "punch 0 0 97 = OUTSIDE; punch 0 0 HIGH = OUTSIDE; punch 0 0 96 = 5; places 0 = 24:");
        Script.test("5 punch: n is .. 96 less at: from 1 on",
            MIXED,
            "punch 0 1 96 = OUTSIDE; punch 0 1 HIGH = OUTSIDE; punch 0 1 95 = 4; places 0 = 24: 6; cells 0 = 1 0*23");
        Script.test("5 punch: n is .. 96 less at: from 50 on",
            "write 0 0 96 1; punch 0 50 47 = OUTSIDE; punch 0 50 HIGH = OUTSIDE; punch 0 50 46 = 11",
            "cells 0 = 1*50 0*46");
        Script.test("5 punch: n is .. 96 less at: from 95 on",
            "write 0 0 96 1; punch 0 95 2 = OUTSIDE; punch 0 95 HIGH = OUTSIDE; punch 0 95 0 = OUTSIDE",
            "punch 0 95 1 = 0; cells 0 = 1*95 0");
        Script.test("5 punch: it answers how many PLACES have BLOCKS no more: none, one, all 24",
            "punch 0 0 96 = 0; write 0 0 96 1; punch 0 1 2 = 0; punch 0 92 4 = 1; punch 0 0 96 = 23; punch 0 0 96 = 0",
            "write 0 0 96 1; punch 0 0 96 = 24");
        Script.test("5 punch: PLACES are told, not BLOCKS: one BLOCK of two PLACES",
            "write 0 0 4 1; share 0 0 0 1 1 = 8; punch 0 0 8 = 2; many 0 = 48");
        Script.test("5 punch: SIZE stays",
            "write 0 0 6 1; punch 0 4 2 = 1; ofFile 0 0 = 6; punch 0 0 96 = 1; ofFile 0 0 = 6");
    }

    private static void punchRefusals() {
        Script.test("5 punch: STATE: the house is DOWN",
            DOWN, "punch 0 0 4 = STATE; punch 3 0 1 = STATE; punch 0 95 1 = STATE; mount true = 1; punch 0 0 4 = 1");
        Script.test("5 punch: SPENT: a part of a SHARED PLACE: its first CELLS, its last, one between",
            NONE_FREE, "punch 2 4 3 = SPENT; punch 2 5 3 = SPENT; punch 2 6 1 = SPENT; punch 0 6 1 = SPENT");
        Script.test("5 punch: SPENT: two parts, one FREE BLOCK: neither is OWNED, nothing is punched",
            ONE_FREE, "punch 2 3 6 = SPENT; places 2 = 12: 0 1 2; cells 2 = 1*12; many 0 = 1");
        Script.test("5 punch: SPENT: two parts, two FREE BLOCKS",
            TWO_FREE, "punch 2 3 6 = 1; places 2 = 12: 34 . 47; cells 2 = 1*3 0*6 1*3; cells 0 = 1*96");
        Script.test("5 punch: no SPENT for whole PLACES, HOLES, own ones, and from SIZE on",
            NONE_FREE,
            "punch 2 8 88 = 1; punch 2 9 2 = 0; punch 2 12 84 = 0; punch 0 13 1 = 0; punch 0 8 5 = 1; read 0 12 = 0",
            "read 0 14 = 1");
        Script.test("5 punch: UNKNOWN ahead of OUTSIDE, STATE",
            DOWN, "punch 4 96 1 = UNKNOWN; punch -1 0 0 = UNKNOWN; punch 4 0 1 = UNKNOWN");
        Script.test("5 punch: OUTSIDE ahead of STATE",
            DOWN, "punch 0 96 1 = OUTSIDE; punch 0 0 0 = OUTSIDE; punch 0 0 97 = OUTSIDE; punch 0 -1 1 = OUTSIDE");
        Script.test("5 punch: UNKNOWN, OUTSIDE ahead of SPENT",
            NONE_FREE, "punch 4 1 1 = UNKNOWN; punch 2 1 96 = OUTSIDE; punch 2 1 95 = SPENT");
        Script.test("5 punch: STATE ahead of SPENT",
            DOWN_AND_NONE_FREE, "punch 2 1 1 = STATE; mount false = 0; punch 2 1 1 = SPENT");
    }
}
