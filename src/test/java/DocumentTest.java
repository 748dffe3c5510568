import java.io.IOException;
import java.util.ArrayList;
import java.util.List;

/**
 * The document from its first line to its last promise: each part of it in its own words, in its order, with what it
 * says as rows of calls. A part of the document that is not said here, or is said otherwise, is a fault as well.
 */
public final class DocumentTest {
    private static final String FULL_DISK = Scenes.FULL_DISK;
    private static final String NONE_FREE = Scenes.NONE_FREE;
    private static final String MIXED = Scenes.MIXED;
    private static final String DOWN_AND_NONE_FREE = Scenes.DOWN_AND_NONE_FREE;
    /** Three runs: blocks 1 .. 3, 6 .. 7, 10 .. 11. */
    private static final String THREE_RUNS = FULL_DISK + "; punch 0 4 12 = 3; punch 0 24 8 = 2; punch 0 40 8 = 2";
    private static final String GO_DOWN = "; failure 0; exchange 0 0 1 0 1 = 0; ";

    private static final List<String> SAID = new ArrayList<>();

    private DocumentTest() {
    }

    public static void main(String[] args) throws IOException {
        whatItIs();
        refusals();
        disk();
        getting();
        owning();
        changes();
        exchanges();
        piecesAndBands();
        promisesOfCells();
        promisesOfPlaces();
        promisesOfExchanges();
        promisesOfTelling();
        allIsSaid();
        Script.end();
    }

    private static void says(String words, String... rows) {
        SAID.add(words);
        Script.test(words, rows);
    }

    private static void allIsSaid() throws IOException {
        String said = String.join(" ", SAID);
        String due = Document.sentences();
        if (!said.equals(due)) {
            int i = 0;
            while (i < said.length() && i < due.length() && said.charAt(i) == due.charAt(i)) {
                i++;
            }
            System.out.println("the document goes on here: " + due.substring(i, Math.min(due.length(), i + 200)));
            System.out.println("this test goes on here: " + said.substring(i, Math.min(said.length(), i + 200)));
            System.exit(1);
        }
    }

    private static void whatItIs() {
        says("Files that are cut: files of cells on blocks of a disk, with holes, with blocks that several places of"
            + " files share;",
            "write 0 0 4 7 = 4; write 0 8 4 9 = 12; share 0 0 1 0 3 = 12; places 0 = 12: 0 . 1; places 1 = 12: 0 . 1",
            "cells 1 = 7*4 0*4 9*4; counts = 2*2 0*46");
        says("cells written, so that a shared block becomes one's own first;",
            "write 0 0 8 1; share 0 0 1 0 2; write 1 5 1 2 = 8; places 1 = 8: 0 2; places 0 = 8: 0 1",
            "cells 1 = 1*5 2 1*2; cells 0 = 1*8");
        says("holes punched, ranges taken out and what is behind moved up, ranges put in between, ranges shared with"
            + " another file, exchanged with another one step by step, by a log, so that it is whole or not at all,"
            + " made one's own again;",
            "write 0 0 16 1; write 1 0 8 2; punch 0 4 4 = 1; places 0 = 16: 0 . 2 3",
            "collapse 0 2 1 = 12; places 0 = 12: 0 . 3; insert 0 2 1 = 16; places 0 = 16: 0 . . 3",
            "share 0 3 1 2 1 = 12; places 1 = 12: 4 5 3",
            "failure 1; exchange 0 0 1 0 2 = 1; places 0 = 16: 4 . . 3; places 1 = 12: 0 5 3",
            "mount true = 1; places 0 = 16: 4 5 . 3; places 1 = 12: 0 . 3",
            "unshare 1 0 24 = 1; places 1 = 12: 0 . 1; cells 1 = 1*4 0*4 1*4");
        says("in how many pieces a file lies, where data, where holes are next, how often blocks are shared, which runs"
            + " are free.",
            "write 0 0 8 1; write 0 12 4 1; share 0 0 1 0 1; ofFile 0 3 = 2; seek 0 8 true = 12; seek 0 0 false = 8",
            "count 0 = 2; range 0 0 = 3; range 0 1 = 45");
        says("An object is used for at most 512 calls after it has been made; what later calls answer is free.",
            "write 0 0 4 1 = 4; share 0 0 1 0 1 = 4; punch 1 0 1 = 0; cut 1 0 = 4; ".repeat(127)
                + "read 0 3 = 1; count 0 = 1; many 0 = 47; cut 0 0 = 4");
    }

    private static void refusals() {
        says("REFUSALS: of a call's line the first that fits is answered, in the order told there: UNKNOWN (there is no"
            + " such FILE), OUTSIDE (another number is not as told), STATE (as told; of each call that changes a FILE"
            + " also: the house is DOWN), FULL (as told), SPENT (there are not as many FREE BLOCKS);",
            DOWN_AND_NONE_FREE,
            "write 4 96 1 1 = UNKNOWN; write 3 96 1 1 = OUTSIDE; write 3 0 1 1 = STATE; insert 0 0 25 = OUTSIDE",
            "insert 0 0 24 = STATE; cut 2 1 = STATE; punch 2 1 1 = STATE; collapse 0 0 1 = STATE",
            "share 0 0 3 0 1 = STATE",
            "unshare 2 0 1 = STATE; exchange 0 0 1 0 1 = STATE; failure 1 = STATE; mount false = 0",
            "write 3 0 1 1 = SPENT; insert 0 0 24 = FULL; cut 2 1 = SPENT; punch 2 1 1 = SPENT; unshare 2 0 1 = SPENT");
        says("they change nothing.",
            MIXED, "read 4 0 = UNKNOWN; write 0 96 1 1 = OUTSIDE; collapse 3 0 3 = STATE; insert 0 0 19 = FULL",
            "exchange 0 0 1 0 4 = STATE; share 3 2 0 0 1 = STATE; mount true = STATE; failure 24 = OUTSIDE",
            "write 3 9 87 1 = 96; write 2 8 80 1 = 88; many 0 = 0; unshare 1 0 24 = SPENT; write 1 4 8 1 = SPENT",
            "punch 1 5 6 = SPENT; cut 0 6 = SPENT; failure 1 = 1; places 1 = 12: . 0 1; places 0 = 24: 0 1 2 3 . 4");
        says("NONE is -9.", "block 0 0 = -9; piece 0 0 0 = -9; seek 0 0 true = -9; range 0 2 = -9; failure -9 = -9");
    }

    private static void disk() {
        says("The DISK has BLOCKS 0 .. 47, of 4 CELLS each (0 .. 255).",
            FULL_DISK, "count 0 = 1; count 47 = 1; count 48 = OUTSIDE; count -1 = OUTSIDE; write 2 0 1 3 = SPENT",
            "write 0 0 1 0 = 96; write 0 1 1 255 = 96; write 0 2 1 256 = OUTSIDE; write 0 2 1 -1 = OUTSIDE",
            "cells 0 = 0 255 1*94; cells 1 = 2*96");
        says("FILES 0 .. 3 have a SIZE (0 .. 96 CELLS; 0 at first) and PLACES 0 .. 23, of 4 CELLS likewise:",
            "ofFile 0 0 = 0; ofFile 3 0 = 0; ofFile 4 0 = UNKNOWN; ofFile -1 0 = UNKNOWN; cut 3 96 = 0",
            "cut 3 97 = OUTSIDE; block 3 23 = NONE; block 3 24 = OUTSIDE; write 3 92 4 5 = 96; block 3 23 = 0",
            "ofFile 3 1 = 1");
        says("each has a BLOCK, or is a HOLE (its CELLS are 0).",
            "write 0 4 4 9; cut 0 12; places 0 = 12: . 0; cells 0 = 0*4 9*4 0*4");
        says("CELL i of a FILE is in PLACE i by 4 (cut).",
            "cut 0 96; write 0 7 1 1; write 0 8 1 2; block 0 0 = NONE; block 0 1 = 0; block 0 2 = 1; block 0 3 = NONE",
            "read 0 7 = 1; read 0 8 = 2");
        says("PLACES all of whose CELLS are at SIZE or behind it are HOLES;",
            "write 0 0 12 5; cut 0 5 = 12; places 0 = 5: 0 1; cut 0 4 = 5; places 0 = 4: 0; cut 0 12 = 4",
            "places 0 = 12: 0");
        says("CELLS at SIZE or behind it are 0.",
            "write 0 0 8 5; cut 0 5; cut 0 8 = 5; cells 0 = 5*5 0*3; cut 0 6; write 0 9 1 7 = 10; cells 0 = 5*5 0*4 7");
        says("COUNT of a BLOCK: how many PLACES of all FILES have it;",
            "write 0 0 4 1; share 0 0 0 1 1; share 0 0 3 5 1; count 0 = 3; cut 3 0; count 0 = 2; punch 0 0 4 = 1",
            "count 0 = 1");
        says("it is FREE, if that is 0; SHARED, if it is above 1.",
            "count 0 = 0; many 0 = 48; write 0 0 4 1; count 0 = 1; many 0 = 47; many 1 = 0; ofFile 0 2 = 0",
            "share 0 0 1 0 1; count 0 = 2; many 0 = 47; many 1 = 1; ofFile 0 2 = 1");
        says("RUNS are FREE BLOCKS side by side, as many as may be.",
            FULL_DISK, "many 2 = 0; range 0 0 = NONE; range 0 1 = NONE",
            "punch 0 4 8 = 2; punch 0 20 4 = 1; punch 1 92 4 = 1; many 2 = 3; range 0 0 = 1; range 0 1 = 2",
            "range 1 0 = 5; range 1 1 = 1; range 2 0 = 47; range 2 1 = 1; range 3 0 = NONE");
    }

    private static void getting() {
        says("n BLOCKS are GOT so: if some RUN has n or more: of those the one with the fewest (of several the"
            + " first), its first n;",
            THREE_RUNS, "write 2 0 8 3 = 8; places 2 = 8: 6 7; cut 2 0; write 2 0 4 3 = 4; places 2 = 4: 6",
            "range 1 0 = 7; range 1 1 = 1; cut 2 0; write 2 0 12 3 = 12; places 2 = 12: 1 2 3");
        says("else all of the RUN with the most (of several the first), and the others likewise",
            THREE_RUNS, "write 2 0 16 3 = 16; places 2 = 16: 1 2 3 6; cut 2 0; write 2 0 28 3 = 28",
            "places 2 = 28: 1 2 3 6 7 10 11; cut 2 0; punch 1 64 16 = 4; write 2 0 24 3 = 24",
            "places 2 = 24: 40 41 42 43 6 7");
        says("(SPENT, if there are fewer than n FREE in all).",
            THREE_RUNS, "many 0 = 7; write 2 0 29 3 = SPENT; write 2 0 28 3 = 28; many 0 = 0; write 2 28 1 3 = SPENT");
    }

    private static void owning() {
        says("To OWN some PLACES: for all of these that have a SHARED BLOCK, and (where a call says so) HOLES, as many"
            + " BLOCKS are GOT,",
            "write 0 0 4 1; write 0 8 4 2; share 0 0 1 0 3 = 12; write 1 12 4 3 = 16; places 1 = 16: 0 . 1 2",
            "unshare 1 0 24 = 2; places 1 = 16: 3 . 4 2; share 0 0 1 0 3 = 16; places 1 = 16: 0 . 1 2",
            "write 1 0 16 9 = 16; places 1 = 16: 3 4 5 2; cells 1 = 9*16; cells 0 = 1*4 0*4 2*4");
        says("given to them by number in the order in which they were GOT;",
            FULL_DISK, "punch 0 4 4 = 1; punch 1 64 8 = 2; share 0 2 2 0 1 = 4; share 0 3 2 3 1 = 16",
            "share 0 5 2 5 1 = 24; places 2 = 24: 2 . . 3 . 5; unshare 2 0 24 = 3; places 2 = 24: 40 . . 41 . 1");
        says("each has the CELLS then that were there.",
            "write 0 0 1 1; write 0 1 3 2; share 0 0 1 0 1; write 1 3 1 9 = 4; cells 1 = 1 2 2 9; cells 0 = 1 2*3",
            "share 0 0 2 1 1 = 8; unshare 2 0 2 = 1; cells 2 = 0*4 1 2*3; block 2 1 = 2");
        says("COUNTS are as they are ahead of it.",
            "write 0 0 4 5; share 0 0 0 1 1; share 0 0 0 2 1; unshare 0 0 3 = 3; places 0 = 12: 1 2 3; count 0 = 0",
            "many 0 = 45");
    }

    private static void changes() {
        says("WRITING: CELLS at .. at and n - 1 become v;",
            "write 0 2 5 7 = 7; cells 0 = 0*2 7*5; write 0 3 1 9 = 7; cells 0 = 0*2 7 9 7*3");
        says("SIZE becomes at and n, if it is less;",
            "write 0 0 6 1 = 6; write 0 2 3 2 = 6; write 0 5 1 2 = 6; write 0 5 2 3 = 7; write 0 10 1 4 = 11",
            "write 0 95 1 5 = 96; write 0 0 1 5 = 96");
        says("PLACES of these CELLS are OWNED ahead of it, HOLES, too.",
            "write 0 0 12 1; share 0 1 1 1 1 = 8; write 1 3 3 2 = 8; places 1 = 8: 3 4; cells 1 = 0*3 2*3 1*2",
            "places 0 = 12: 0 1 2; cells 0 = 1*12");
        says("PUNCHING a range of CELLS (as far as they are less than SIZE):",
            "write 0 0 6 1; punch 0 5 91 = 0; cells 0 = 1*5 0; punch 0 6 90 = 0; places 0 = 6: 0 1");
        says("a PLACE all of whose CELLS below SIZE are in it becomes a HOLE;",
            "write 0 0 10 1; punch 0 8 2 = 1; places 0 = 10: 0 1; punch 0 0 8 = 2; places 0 = 10:; cells 0 = 0*10");
        says("other PLACES with CELLS in it that have a BLOCK are OWNED (ahead of all else), and those CELLS are 0"
            + " then.",
            "write 0 0 12 1; share 0 0 1 0 3; punch 1 2 8 = 1; places 1 = 12: 3 . 4; cells 1 = 1*2 0*8 1*2",
            "cells 0 = 1*12; cut 2 8; punch 2 1 2 = 0; places 2 = 8:; write 3 0 96 1; write 2 8 72 1 = 80; many 0 = 1",
            "write 2 0 4 1 = 80; share 0 0 2 23 1 = 96; punch 2 79 15 = SPENT; cells 2 = 1*4 0*4 1*72 0*12 1*4");
        says("CUTTING a FILE to a SIZE: if it is less: as PUNCHING from that SIZE on to the old one, then SIZE is"
            + " that;",
            "write 0 0 12 1; share 0 0 1 0 3; cut 1 6 = 12; ofFile 1 0 = 6; places 1 = 6: 0 3; cells 1 = 1*6",
            "cells 0 = 1*12; cut 1 8 = 6; cells 1 = 1*6 0*2; cut 1 0 = 8; places 1 = 0:; many 0 = 45");
        says("if it is more, SIZE is that.",
            "write 0 0 6 1; cut 0 20 = 6; ofFile 0 0 = 20; places 0 = 20: 0 1; cells 0 = 1*6 0*14; cut 0 20 = 20");
        says("COLLAPSING PLACES: they are no more; those behind them come forward; SIZE is less by as many CELLS.",
            "write 0 0 4 1; write 0 4 4 2; write 0 8 4 3; write 0 12 2 4; collapse 0 1 2 = 6; places 0 = 6: 0 3",
            "cells 0 = 1*4 4*2; counts = 1 0*2 1 0*44");
        says("INSERTING n PLACES ahead of one: HOLES; those from it on go back; SIZE is more.",
            "write 0 0 4 1; write 0 4 2 2; insert 0 1 3 = 18; places 0 = 18: 0 . . . 1; cells 0 = 1*4 0*12 2*2",
            "many 0 = 46");
        says("SHARING: PLACES of a FILE get the BLOCKS (or HOLES) that PLACES of a FILE have (perhaps the same FILE).",
            "write 0 0 4 1; cut 0 8; write 1 0 12 2; share 0 0 1 1 2 = 12; places 1 = 12: 1 0; cells 1 = 2*4 1*4 0*4",
            "share 1 0 1 2 1 = 12; places 1 = 12: 1 0 1; counts = 2*2 0*46");
    }

    private static void exchanges() {
        says("An EXCHANGE of PLACES of two FILES (perhaps the same) goes by a LOG, STEP by STEP, from the first"
            + " PLACE on:",
            "write 0 0 12 1; write 1 0 12 2; failure 2; exchange 0 0 1 0 3 = 2; places 0 = 12: 3 4 2",
            "places 1 = 12: 0 1 5; mount true = 1; places 0 = 12: 3 4 5; exchange 0 0 0 1 1 = 1; places 0 = 12: 4 3 5");
        says("by each one PLACE of the one and one of the other exchange what they have.",
            "write 0 0 8 1; cut 0 12; write 1 0 12 2; exchange 0 1 1 0 2 = 2; places 0 = 12: 0 2 3",
            "places 1 = 12: 1 . 4; cells 0 = 1*4 2*8; cells 1 = 1*4 0*4 2*4; counts = 1*5 0*43");
        says("With a FAILURE at k (it is NONE at first, and behind each EXCHANGE) the house is DOWN behind k STEPS, if"
            + " there are more;",
            "write 0 0 16 1; write 1 0 16 2; failure 2 = NONE; exchange 0 0 1 0 2 = 2; many 4 = 0; failure 2 = NONE",
            "exchange 0 0 1 0 3 = 2; many 4 = 1; mount false = 2; failure NONE = NONE; exchange 0 0 1 0 4 = 4",
            "many 4 = 0");
        says("what is told is how it lies then.",
            "write 0 0 8 1; write 1 0 8 2; failure 1; exchange 0 0 1 0 2 = 1; many 4 = 1; block 0 0 = 2; block 1 0 = 0",
            "read 0 0 = 2; read 0 4 = 1; ofFile 0 3 = 2; piece 0 1 1 = 1; seek 1 0 true = 0; count 0 = 1",
            "range 0 3 = 4",
            "many 5 = 1");
        says("MOUNTED forward all other STEPS are done, backward those that were done are undone; it is not DOWN then.",
            "write 0 0 12 1; write 1 0 12 2; failure 1; exchange 0 0 1 0 3 = 1; mount true = 2; cells 0 = 2*12",
            "cells 1 = 1*12; many 4 = 0; failure 2; exchange 0 0 1 0 3 = 2; mount false = 2; cells 0 = 2*12",
            "cells 1 = 1*12; many 4 = 0; mount true = STATE");
    }

    private static void piecesAndBands() {
        says("A PIECE of a FILE: PLACES side by side that have BLOCKS side by side, in that order, as many as may be.",
            "write 0 0 12 1; write 1 0 4 2; write 0 12 8 1; exchange 0 0 0 1 1 = 1; places 0 = 20: 1 0 2 4 5",
            "ofFile 0 3 = 4; piece 0 0 2 = 1; piece 0 1 2 = 1; piece 0 2 2 = 1; piece 0 3 0 = 3; piece 0 3 1 = 4",
            "piece 0 3 2 = 2; piece 0 4 0 = NONE; insert 0 4 1; places 0 = 24: 1 0 2 4 . 5; ofFile 0 3 = 5");
        says("A BAND of the DISK: BLOCKS side by side with one COUNT above 0, as many as may be.",
            "write 0 0 20 1; share 0 1 1 0 2 = 8; share 0 1 2 0 1 = 4; counts = 1 3 2 1*2 0*43; many 3 = 4",
            "range 1 2 = 1; range 1 3 = 1; range 1 4 = 3; range 3 2 = 3; range 3 3 = 2; range 3 4 = 1",
            "range 4 2 = NONE",
            "punch 0 12 4 = 1; many 3 = 4; range 3 2 = 4; range 3 3 = 1");
    }

    private static void promisesOfCells() {
        says("`CutFiles()`: All FILES are empty, all BLOCKS FREE.",
            "places 0 = 0:; places 1 = 0:; places 2 = 0:; places 3 = 0:; counts = 0*48; many 0 = 48");
        says("`int read(int f, int i)`: CELL i of a FILE.",
            "write 2 3 2 7; cut 2 9; read 2 2 = 0; read 2 3 = 7; read 2 4 = 7; read 2 5 = 0; read 2 8 = 0");
        says("UNKNOWN; OUTSIDE: i is not 0 .. SIZE - 1.",
            "read 4 0 = UNKNOWN; read -1 0 = UNKNOWN; read 4 -1 = UNKNOWN; read 0 0 = OUTSIDE; write 0 0 3 1",
            "read 0 -1 = OUTSIDE; read 0 0 = 1; read 0 2 = 1; read 0 3 = OUTSIDE");
        says("`int write(int f, int at, int n, int v)`: WRITING: SIZE then.",
            "write 1 5 4 3 = 9; write 1 0 2 4 = 9; cells 1 = 4*2 0*3 3*4; write 1 90 6 5 = 96");
        says("UNKNOWN; OUTSIDE: at (0 .. 95), n (1 .. 96 less at), v (0 .. 255); STATE; SPENT.",
            NONE_FREE, "write 4 0 1 1 = UNKNOWN; write 0 96 1 1 = OUTSIDE; write 0 -1 1 1 = OUTSIDE",
            "write 0 1 96 1 = OUTSIDE; write 0 1 0 1 = OUTSIDE; write 0 0 1 256 = OUTSIDE; write 0 0 1 -1 = OUTSIDE",
            "write 3 0 1 1 = SPENT; write 0 95 1 255 = 96; write 0 12 84 0 = 96" + GO_DOWN + "write 3 0 1 1 = STATE");
        says("`int cut(int f, int size)`: CUTTING to a SIZE: what it was.",
            "cut 1 10 = 0; write 1 0 10 3; cut 1 7 = 10; cells 1 = 3*7; cut 1 9 = 7; cells 1 = 3*7 0*2; cut 1 0 = 9");
        says("UNKNOWN; OUTSIDE: size (0 .. 96); STATE; SPENT.",
            NONE_FREE, "cut 4 0 = UNKNOWN; cut -1 97 = UNKNOWN; cut 0 97 = OUTSIDE; cut 0 -1 = OUTSIDE",
            "cut 2 1 = SPENT",
            "cut 0 96 = 96; cut 3 96 = 0; cut 3 0 = 96" + GO_DOWN + "cut 2 1 = STATE; cut 0 96 = STATE");
        says("`int punch(int f, int at, int n)`: PUNCHING n CELLS from at on: how many PLACES have BLOCKS no more.",
            "write 1 0 22 5; punch 1 3 10 = 2; places 1 = 22: 0 . . 3 4 5; punch 1 3 10 = 0; punch 1 20 2 = 1",
            "cells 1 = 5*3 0*10 5*7 0*2; punch 1 0 96 = 3");
        says("UNKNOWN; OUTSIDE: at (0 .. 95), n (1 .. 96 less at); STATE; SPENT.",
            NONE_FREE, "punch 4 0 1 = UNKNOWN; punch 0 96 1 = OUTSIDE; punch 0 -1 1 = OUTSIDE; punch 0 1 96 = OUTSIDE",
            "punch 0 1 0 = OUTSIDE; punch 2 1 1 = SPENT; punch 0 95 1 = 0; punch 3 0 96 = 0" + GO_DOWN
                + "punch 2 1 1 = STATE; punch 3 0 96 = STATE");
    }

    private static void promisesOfPlaces() {
        says("`int collapse(int f, int p, int n)`: COLLAPSING n PLACES from p on: SIZE then.",
            "write 1 0 22 5; collapse 1 1 2 = 14; places 1 = 14: 0 3 4 5; collapse 1 0 3 = 2; places 1 = 2: 5");
        says("UNKNOWN; OUTSIDE: p (0 .. 23), n (1 .. 24 less p); STATE; also: there is no CELL below SIZE behind them.",
            FULL_DISK, "collapse 4 0 1 = UNKNOWN; collapse 0 24 1 = OUTSIDE; collapse 0 -1 1 = OUTSIDE",
            "collapse 0 1 24 = OUTSIDE; collapse 0 1 0 = OUTSIDE; collapse 0 1 23 = STATE; collapse 0 23 1 = STATE",
            "cut 0 9; collapse 0 1 2 = STATE; collapse 0 1 1 = 5" + GO_DOWN + "collapse 0 0 1 = STATE",
            "collapse 0 0 25 = OUTSIDE");
        says("`int insert(int f, int p, int n)`: INSERTING n PLACES ahead of p: SIZE then.",
            "write 1 0 10 5; insert 1 1 2 = 18; places 1 = 18: 0 . . 1 2; cells 1 = 5*4 0*8 5*6");
        says("UNKNOWN; OUTSIDE: p (0 .. 23), n (1 .. 24); STATE; also: p has no CELL below SIZE; FULL: SIZE would be"
            + " above 96.",
            "write 0 0 9 1; write 1 0 4 2; insert 4 0 1 = UNKNOWN; insert 0 24 1 = OUTSIDE; insert 0 -1 1 = OUTSIDE",
            "insert 0 0 25 = OUTSIDE; insert 0 0 0 = OUTSIDE; insert 0 3 1 = STATE; insert 0 3 24 = STATE",
            "insert 1 1 1 = STATE; insert 1 1 24 = STATE",
            "insert 0 2 22 = FULL; insert 0 2 21 = 93; block 0 23 = 2; insert 1 0 23 = 96" + GO_DOWN
                + "insert 0 0 1 = STATE");
        says("`int share(int f, int p, int g, int q, int n)`: SHARING: n PLACES of FILE g from q on get what those"
            + " of FILE f from p on have; SIZE of g becomes 4 times (q and n), if it is less: SIZE of g then.",
            "write 0 0 8 1; write 0 12 2 1; share 0 1 1 2 2 = 16; places 1 = 16: . . 1; cells 1 = 0*8 1*4 0*4",
            "share 0 0 1 0 1 = 16; places 1 = 16: 0 . 1; share 1 0 0 2 1 = 14; places 0 = 14: 0 1 0 2; count 0 = 3");
        says("UNKNOWN: f, g; OUTSIDE: p, q (0 .. 23), n (1 .. 24 less the greater of both); STATE; also: some CELLS of"
            + " those of f are not below SIZE, FILES are one and the PLACES meet.",
            "write 0 0 14 1; write 1 0 4 2; share 4 0 1 0 1 = UNKNOWN; share 0 0 4 0 1 = UNKNOWN",
            "share 0 24 1 0 1 = OUTSIDE; share 0 0 1 24 1 = OUTSIDE; share 0 0 1 -1 1 = OUTSIDE",
            "share 0 -1 1 0 1 = OUTSIDE; share 0 0 1 0 0 = OUTSIDE; share 0 0 1 22 3 = OUTSIDE",
            "share 0 22 1 0 3 = OUTSIDE",
            "share 0 3 1 0 1 = STATE; share 0 0 1 0 4 = STATE; share 0 0 0 1 2 = STATE; share 0 0 0 2 2 = 16",
            "share 0 1 0 0 2 = STATE; share 0 2 0 0 2 = 16",
            "share 0 0 1 22 2 = 96" + GO_DOWN + "share 0 0 2 0 1 = STATE");
        says("`int unshare(int f, int p, int n)`: PLACES p .. p and n - 1 (as far as there are) are OWNED: how many"
            + " were SHARED.",
            "write 0 0 12 5; share 0 0 1 1 3; write 1 0 4 6; unshare 1 0 2 = 1; places 1 = 16: 3 4 1 2",
            "cells 1 = 6*4 5*12; unshare 1 2 22 = 2; places 1 = 16: 3 4 5 6; unshare 1 0 24 = 0; cells 0 = 5*12");
        says("UNKNOWN; OUTSIDE: p (0 .. 23), n (1 .. 24 less p); STATE; SPENT.",
            NONE_FREE, "unshare 4 0 1 = UNKNOWN; unshare 0 24 1 = OUTSIDE; unshare 0 -1 1 = OUTSIDE",
            "unshare 0 1 24 = OUTSIDE; unshare 0 1 0 = OUTSIDE; unshare 2 0 24 = SPENT; unshare 2 3 21 = 0" + GO_DOWN
                + "unshare 2 0 24 = STATE; unshare 2 3 21 = STATE");
    }

    private static void promisesOfExchanges() {
        says("`int failure(int k)`: The FAILURE becomes k (0 .. 23, or NONE): what it was.",
            FULL_DISK, "failure 23 = NONE; failure 0 = 23; failure NONE = 0; failure 3 = NONE; exchange 0 0 1 0 5 = 3",
            "many 5 = 2");
        says("OUTSIDE; STATE: it is DOWN.",
            FULL_DISK, "failure 24 = OUTSIDE; failure -1 = OUTSIDE; failure -8 = OUTSIDE; failure -10 = OUTSIDE",
            "failure NONE = NONE" + GO_DOWN + "failure 3 = STATE; failure NONE = STATE; failure 24 = OUTSIDE",
            "mount true = 1; failure 3 = NONE");
        says("`int exchange(int f, int p, int g, int q, int n)`: An EXCHANGE of n PLACES of f from p on with those of g"
            + " from q on: how many STEPS were done.",
            "write 0 0 12 1; write 1 0 16 2; exchange 0 1 1 2 2 = 2; places 0 = 12: 0 5 6; places 1 = 16: 3 4 1 2",
            "failure 1; exchange 1 0 0 1 2 = 1; places 0 = 12: 0 3 6; places 1 = 16: 5 4 1 2");
        says("UNKNOWN: f, g; OUTSIDE: p, q (0 .. 23), n (1 .. 24 less the greater of both); STATE; also: some of their"
            + " CELLS are not below SIZE, FILES are one and the PLACES meet.",
            "write 0 0 14 1; write 1 0 9 2; write 2 0 96 3; exchange 4 0 1 0 1 = UNKNOWN; exchange 0 0 4 0 1 = UNKNOWN",
            "exchange 0 24 1 0 1 = OUTSIDE; exchange 0 0 1 24 1 = OUTSIDE; exchange 0 0 1 -1 1 = OUTSIDE",
            "exchange 0 -1 1 0 1 = OUTSIDE; exchange 0 0 1 0 0 = OUTSIDE; exchange 0 0 1 22 3 = OUTSIDE",
            "exchange 0 22 1 0 3 = OUTSIDE; exchange 0 3 2 0 1 = STATE; exchange 2 0 1 2 1 = STATE",
            "exchange 2 0 2 1 2 = STATE; exchange 2 0 2 2 2 = 2; exchange 2 1 2 0 2 = STATE; exchange 2 2 2 0 2 = 2",
            "exchange 0 0 1 0 2 = 2" + GO_DOWN
                + "exchange 0 0 2 0 1 = STATE; exchange 0 0 2 0 25 = OUTSIDE");
        says("`int mount(boolean forward)`: MOUNTED forward (true), backward: how many STEPS that took.",
            FULL_DISK, "failure 5; exchange 0 0 1 0 24 = 5; mount true = 19; cells 0 = 2*96; failure 5",
            "exchange 0 0 1 0 24 = 5; mount false = 5; cells 0 = 2*96; cells 1 = 1*96");
        says("STATE: it is not DOWN.",
            FULL_DISK, "mount true = STATE; mount false = STATE; failure 3; mount true = STATE; exchange 0 0 1 0 3 = 3",
            "mount false = STATE" + GO_DOWN + "mount true = 1; mount true = STATE; mount false = STATE");
    }

    private static void promisesOfTelling() {
        says("`int ofFile(int f, int what)`: Of a FILE: 0 SIZE, 1 how many PLACES have a BLOCK, 2 a SHARED one, 3"
            + " how many PIECES.",
            MIXED, "ofFile 0 0 = 24; ofFile 0 1 = 5; ofFile 0 2 = 2; ofFile 0 3 = 2; ofFile 3 0 = 9; ofFile 3 1 = 0",
            "ofFile 3 2 = 0; ofFile 3 3 = 0");
        says("UNKNOWN; OUTSIDE.",
            "ofFile 4 0 = UNKNOWN; ofFile -1 4 = UNKNOWN; ofFile 0 4 = OUTSIDE; ofFile 0 -1 = OUTSIDE; ofFile 0 3 = 0");
        says("`int block(int f, int p)`: The BLOCK of a PLACE; NONE: it is a HOLE.",
            MIXED, "block 0 0 = 0; block 0 4 = NONE; block 0 5 = 4; block 0 23 = NONE; block 1 1 = 0; block 2 1 = 5");
        says("UNKNOWN; OUTSIDE: p (0 .. 23).",
            "block 4 0 = UNKNOWN; block -1 24 = UNKNOWN; block 0 24 = OUTSIDE; block 0 -1 = OUTSIDE",
            "block 0 23 = NONE");
        says("`int piece(int f, int k, int what)`: Of the k-th PIECE of a FILE (from 0 on): 0 its first PLACE, 1 first"
            + " BLOCK, 2 how many; NONE: there are fewer.",
            MIXED, "piece 0 0 0 = 0; piece 0 0 1 = 0; piece 0 0 2 = 4; piece 0 1 0 = 5; piece 0 1 1 = 4",
            "piece 0 1 2 = 1",
            "piece 0 2 0 = NONE; piece 1 0 0 = 1; piece 1 0 1 = 0; piece 1 0 2 = 2; piece 3 0 2 = NONE");
        says("UNKNOWN; OUTSIDE: k (0 .. 23), what.",
            "piece 4 0 0 = UNKNOWN; piece -1 24 3 = UNKNOWN; piece 0 24 0 = OUTSIDE; piece 0 -1 0 = OUTSIDE",
            "piece 0 0 3 = OUTSIDE; piece 0 0 -1 = OUTSIDE; piece 0 23 2 = NONE");
        says("`int seek(int f, int at, boolean data)`: The first CELL from at on (0 .. 96), below SIZE, that is in a"
            + " PLACE with a BLOCK (data true), in a HOLE (false); else: NONE (true), SIZE or at, the greater (false).",
            "write 0 5 2 1; write 0 12 2 1; seek 0 0 true = 4; seek 0 7 true = 7; seek 0 8 true = 12",
            "seek 0 14 true = NONE",
            "seek 0 0 false = 0; seek 0 4 false = 8; seek 0 11 false = 11; seek 0 12 false = 14; seek 0 13 false = 14",
            "seek 0 15 false = 15; seek 0 96 false = 96; seek 0 96 true = NONE");
        says("UNKNOWN; OUTSIDE.",
            "seek 4 0 true = UNKNOWN; seek -1 97 false = UNKNOWN; seek 0 97 true = OUTSIDE; seek 0 97 false = OUTSIDE",
            "seek 0 -1 true = OUTSIDE; seek 0 -1 false = OUTSIDE");
        says("`int count(int b)`: COUNT of a BLOCK.",
            MIXED, "count 0 = 2; count 1 = 2; count 2 = 1; count 5 = 1; count 6 = 0; count 47 = 0");
        says("OUTSIDE.", "count 48 = OUTSIDE; count -1 = OUTSIDE; count NONE = OUTSIDE; count 47 = 0");
        says("`int range(int k, int what)`: Of the k-th RUN (from 0 on): 0 its first BLOCK, 1 how many; of the k-th"
            + " BAND: 2 its first BLOCK, 3 how many, 4 the COUNT; NONE: there are fewer.",
            MIXED, "punch 0 8 4 = 1; range 0 0 = 2; range 0 1 = 1; range 1 0 = 6; range 1 1 = 42; range 2 0 = NONE",
            "range 2 1 = NONE; range 0 2 = 0; range 0 3 = 2; range 0 4 = 2; range 1 2 = 3; range 1 3 = 3",
            "range 1 4 = 1",
            "range 2 2 = NONE; range 2 3 = NONE; range 2 4 = NONE");
        says("OUTSIDE: k (0 .. 47), what.",
            "range 48 0 = OUTSIDE; range -1 0 = OUTSIDE; range 0 5 = OUTSIDE; range 0 -1 = OUTSIDE; range 47 4 = NONE");
        says("`int many(int what)`: How many: 0 FREE BLOCKS, 1 SHARED ones, 2 RUNS, 3 BANDS, 4 whether it is DOWN"
            + " (1, 0), 5 STEPS that are yet to be done (0: it is not DOWN).",
            MIXED, "many 0 = 42; many 1 = 2; many 2 = 1; many 3 = 2; many 4 = 0; many 5 = 0",
            "punch 0 8 4 = 1; many 0 = 43; many 1 = 2; many 2 = 2; many 3 = 2",
            "exchange 0 0 1 0 3 = 1; many 4 = 1; many 5 = 2; mount true = 2; many 4 = 0; many 5 = 0");
        says("OUTSIDE.", "many 6 = OUTSIDE; many -1 = OUTSIDE; many 5 = 0");
    }
}
