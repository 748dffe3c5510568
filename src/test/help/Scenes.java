/** Rows for Script that bring a new object to where the edges are. */
final class Scenes {
    /** Every block is in use: file 0 has 0 .. 23, file 1 has 24 .. 47. */
    static final String FULL_DISK = "write 0 0 96 1 = 96; write 1 0 96 2 = 96";

    /** No block is free, and file 2 shares three of file 0. */
    static final String NONE_FREE = FULL_DISK + "; share 0 0 2 0 3 = 12";
    static final String ONE_FREE = NONE_FREE + "; punch 1 40 4 = 1";
    static final String TWO_FREE = ONE_FREE + "; punch 1 92 4 = 1";

    /**
     * Holes, shared blocks, sizes within places and a failure: what a refused call could spoil. File 0 has the blocks
     * 0 1 2 3 . 4, file 1 . 0 1, file 2 . 5 and file 3 holes; the sizes are 24, 12, 8 and 9.
     */
    static final String MIXED = "write 0 0 14 1 = 14; write 0 20 4 5 = 24; share 0 0 1 1 2 = 12; write 2 5 3 7 = 8"
        + "; cut 3 9 = 0; failure 1 = NONE";

    /** The same, down behind one step of two: file 0 has 0 . 2 3 . 4, file 1 has 1 0 1. */
    static final String DOWN = MIXED + "; exchange 0 1 1 0 2 = 1";
    static final String DOWN_AND_NONE_FREE = NONE_FREE + "; failure 0; exchange 0 0 1 0 1 = 0";

    private Scenes() {
    }
}
