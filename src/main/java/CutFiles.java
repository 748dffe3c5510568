/**
 * Files of cells on the blocks of a small disk: with holes, with shared blocks, and with an exchange that goes by a
 * log. README.md says how it is used; the numbered promises stand in the project's document.
 */
public final class CutFiles {
    public static final int UNKNOWN = -1, OUTSIDE = -2, STATE = -3, FULL = -4, SPENT = -6, NONE = -9;

    private static final int BLOCKS = 48;
    private static final int FILES = 4;
    private static final int PLACES = 24;
    private static final int WIDTH = 4;
    private static final int MOST_CELLS = PLACES * WIDTH;
    private static final int MOST_VALUE = 255;

    private final int[] cells;
    private final int[] counts;
    private final int[] blocks;
    private final int[] sizes;

    // Rows for one call of owning; kept, so that no call makes an array.
    private final int[] needy;
    private int needyMany;
    private final int[] got;
    private int gotMany;

    private int failAt;
    private boolean down;
    private int logF;
    private int logP;
    private int logG;
    private int logQ;
    private int logSteps;
    private int logDone;

    public CutFiles() {
        cells = new int[BLOCKS * WIDTH];
        counts = new int[BLOCKS];
        blocks = new int[FILES * PLACES];
        sizes = new int[FILES];
        needy = new int[PLACES];
        got = new int[BLOCKS];
        failAt = NONE;
        for (int i = 0; i < blocks.length; i++) {
            blocks[i] = NONE;
        }
    }

    // ---- 1 cells

    public int read(int f, int i) {
        if (!isFile(f)) {
            return UNKNOWN;
        }
        if (i < 0 || i >= sizeOf(f)) {
            return OUTSIDE;
        }
        return cellOf(blockAt(f, i / WIDTH), i % WIDTH);
    }

    public int write(int f, int at, int n, int v) {
        if (!isFile(f)) {
            return UNKNOWN;
        }
        if (!isCellRange(at, n) || v < 0 || v > MOST_VALUE) {
            return OUTSIDE;
        }
        if (down) {
            return STATE;
        }
        chooseNeedy(f, at / WIDTH, (at + n - 1) / WIDTH, true);
        if (isSpent()) {
            return SPENT;
        }
        ownNeedy(f);
        setCells(f, at, at + n, v);
        growTo(f, at + n);
        return sizeOf(f);
    }

    public int cut(int f, int size) {
        if (!isFile(f)) {
            return UNKNOWN;
        }
        if (size < 0 || size > MOST_CELLS) {
            return OUTSIDE;
        }
        if (down) {
            return STATE;
        }
        int old = sizeOf(f);
        chooseCutThrough(f, size, old);
        if (isSpent()) {
            return SPENT;
        }
        ownNeedy(f);
        clearCells(f, size, old);
        setSize(f, size);
        return old;
    }

    public int punch(int f, int at, int n) {
        if (!isFile(f)) {
            return UNKNOWN;
        }
        if (!isCellRange(at, n)) {
            return OUTSIDE;
        }
        if (down) {
            return STATE;
        }
        int end = Math.min(at + n, sizeOf(f));
        chooseCutThrough(f, at, end);
        if (isSpent()) {
            return SPENT;
        }
        ownNeedy(f);
        return clearCells(f, at, end);
    }

    // ---- 2 places

    public int collapse(int f, int p, int n) {
        if (!isFile(f)) {
            return UNKNOWN;
        }
        if (!isPlaceRange(p, n)) {
            return OUTSIDE;
        }
        if (down || (p + n) * WIDTH >= sizeOf(f)) {
            return STATE;
        }
        for (int i = p; i < PLACES; i++) {
            putBlock(f, i, blockAt(f, i + n));
        }
        setSize(f, sizeOf(f) - n * WIDTH);
        return sizeOf(f);
    }

    public int insert(int f, int p, int n) {
        if (!isFile(f)) {
            return UNKNOWN;
        }
        if (!isPlace(p) || n < 1 || n > PLACES) {
            return OUTSIDE;
        }
        if (down || p * WIDTH >= sizeOf(f)) {
            return STATE;
        }
        if (sizeOf(f) + n * WIDTH > MOST_CELLS) {
            return FULL;
        }
        for (int i = PLACES - 1; i >= p; i--) {
            putBlock(f, i, i - n >= p ? blockAt(f, i - n) : NONE);
        }
        setSize(f, sizeOf(f) + n * WIDTH);
        return sizeOf(f);
    }

    public int share(int f, int p, int g, int q, int n) {
        if (!isFile(f) || !isFile(g)) {
            return UNKNOWN;
        }
        if (!isPlaceRange(p, n) || !isPlaceRange(q, n)) {
            return OUTSIDE;
        }
        if (down || !isBelowSize(f, p, n) || meet(f, p, g, q, n)) {
            return STATE;
        }
        for (int i = 0; i < n; i++) {
            putBlock(g, q + i, blockAt(f, p + i));
        }
        growTo(g, (q + n) * WIDTH);
        return sizeOf(g);
    }

    public int unshare(int f, int p, int n) {
        if (!isFile(f)) {
            return UNKNOWN;
        }
        if (!isPlaceRange(p, n)) {
            return OUTSIDE;
        }
        if (down) {
            return STATE;
        }
        chooseNeedy(f, p, p + n - 1, false);
        if (isSpent()) {
            return SPENT;
        }
        ownNeedy(f);
        return needyMany;
    }

    // ---- 3 exchanges

    public int failure(int k) {
        if (k != NONE && !isPlace(k)) {
            return OUTSIDE;
        }
        if (down) {
            return STATE;
        }
        int old = failAt;
        failAt = k;
        return old;
    }

    public int exchange(int f, int p, int g, int q, int n) {
        if (!isFile(f) || !isFile(g)) {
            return UNKNOWN;
        }
        if (!isPlaceRange(p, n) || !isPlaceRange(q, n)) {
            return OUTSIDE;
        }
        if (down || !isBelowSize(f, p, n) || !isBelowSize(g, q, n) || meet(f, p, g, q, n)) {
            return STATE;
        }
        openLog(f, p, g, q, n);
        down = failAt != NONE && failAt < n;
        logDone = down ? failAt : n;
        doSteps(0, logDone);
        failAt = NONE;
        return logDone;
    }

    public int mount(boolean forward) {
        if (!down) {
            return STATE;
        }
        int from = forward ? logDone : 0;
        int end = forward ? logSteps : logDone;
        doSteps(from, end);
        down = false;
        return end - from;
    }

    // ---- 4 how it lies

    public int ofFile(int f, int what) {
        if (!isFile(f)) {
            return UNKNOWN;
        }
        switch (what) {
            case 0:
                return sizeOf(f);
            case 1:
                return placesCountedFrom(f, 1);
            case 2:
                return placesCountedFrom(f, 2);
            case 3:
                return piecesOf(f);
            default:
                return OUTSIDE;
        }
    }

    public int block(int f, int p) {
        if (!isFile(f)) {
            return UNKNOWN;
        }
        if (!isPlace(p)) {
            return OUTSIDE;
        }
        return blockAt(f, p);
    }

    public int piece(int f, int k, int what) {
        if (!isFile(f)) {
            return UNKNOWN;
        }
        if (!isPlace(k) || what < 0 || what > 2) {
            return OUTSIDE;
        }
        int p = pieceStart(f, k);
        if (p == NONE) {
            return NONE;
        }
        switch (what) {
            case 0:
                return p;
            case 1:
                return blockAt(f, p);
            default:
                return pieceLength(f, p);
        }
    }

    public int seek(int f, int at, boolean data) {
        if (!isFile(f)) {
            return UNKNOWN;
        }
        if (at < 0 || at > MOST_CELLS) {
            return OUTSIDE;
        }
        for (int i = at; i < sizeOf(f); i++) {
            if (isBlock(blockAt(f, i / WIDTH)) == data) {
                return i;
            }
        }
        return data ? NONE : Math.max(sizeOf(f), at);
    }

    public int count(int b) {
        return isBlock(b) ? countOf(b) : OUTSIDE;
    }

    public int range(int k, int what) {
        if (k < 0 || k >= BLOCKS || what < 0 || what > 4) {
            return OUTSIDE;
        }
        int b = stretchStart(k, what < 2);
        if (b == NONE) {
            return NONE;
        }
        switch (what) {
            case 0:
            case 2:
                return b;
            case 1:
            case 3:
                return stretchLength(b);
            default:
                return countOf(b);
        }
    }

    public int many(int what) {
        switch (what) {
            case 0:
                return freeMany();
            case 1:
                return sharedMany();
            case 2:
                return stretchesMany(true);
            case 3:
                return stretchesMany(false);
            case 4:
                return down ? 1 : 0;
            case 5:
                return down ? logSteps - logDone : 0;
            default:
                return OUTSIDE;
        }
    }

    // What numbers may be.

    private static boolean isFile(int f) {
        return f >= 0 && f < FILES;
    }

    private static boolean isPlace(int p) {
        return p >= 0 && p < PLACES;
    }

    private static boolean isBlock(int b) {
        return b >= 0 && b < BLOCKS;
    }

    private static boolean isCellRange(int at, int n) {
        return at >= 0 && at < MOST_CELLS && n >= 1 && n <= MOST_CELLS - at;
    }

    private static boolean isPlaceRange(int p, int n) {
        return isPlace(p) && n >= 1 && n <= PLACES - p;
    }

    private static boolean meet(int f, int p, int g, int q, int n) {
        return f == g && p < q + n && q < p + n;
    }

    private boolean isBelowSize(int f, int p, int n) {
        return (p + n) * WIDTH <= sizeOf(f);
    }

    // Files and their places.

    private int sizeOf(int f) {
        return isFile(f) ? sizes[f] : 0;
    }

    private void setSize(int f, int size) {
        if (isFile(f)) {
            sizes[f] = size;
        }
    }

    private void growTo(int f, int size) {
        setSize(f, Math.max(sizeOf(f), size));
    }

    private int blockAt(int f, int p) {
        return isFile(f) && isPlace(p) ? blocks[f * PLACES + p] : NONE;
    }

    private void putBlock(int f, int p, int b) {
        if (isFile(f) && isPlace(p)) {
            addToCount(blockAt(f, p), -1);
            addToCount(b, 1);
            blocks[f * PLACES + p] = b;
        }
    }

    private int placesCountedFrom(int f, int least) {
        int many = 0;
        for (int p = 0; p < PLACES; p++) {
            if (countOf(blockAt(f, p)) >= least) {
                many++;
            }
        }
        return many;
    }

    private boolean startsPiece(int f, int p) {
        return isBlock(blockAt(f, p)) && !goesOn(f, p - 1);
    }

    private boolean goesOn(int f, int p) {
        return isBlock(blockAt(f, p)) && blockAt(f, p + 1) == blockAt(f, p) + 1;
    }

    private int pieceStart(int f, int k) {
        int before = 0;
        for (int p = 0; p < PLACES; p++) {
            if (startsPiece(f, p)) {
                if (before == k) {
                    return p;
                }
                before++;
            }
        }
        return NONE;
    }

    private int pieceLength(int f, int p) {
        int length = 1;
        for (int i = p; i < PLACES && goesOn(f, i); i++) {
            length++;
        }
        return length;
    }

    private int piecesOf(int f) {
        int many = 0;
        for (int p = 0; p < PLACES; p++) {
            if (startsPiece(f, p)) {
                many++;
            }
        }
        return many;
    }

    // Blocks: cells and counts.

    private int cellOf(int b, int c) {
        return isBlock(b) && c >= 0 && c < WIDTH ? cells[b * WIDTH + c] : 0;
    }

    private void setCell(int b, int c, int v) {
        if (isBlock(b) && c >= 0 && c < WIDTH) {
            cells[b * WIDTH + c] = v;
        }
    }

    private int countOf(int b) {
        return isBlock(b) ? counts[b] : 0;
    }

    private void addToCount(int b, int change) {
        if (isBlock(b)) {
            counts[b] += change;
        }
    }

    private int freeMany() {
        int many = 0;
        for (int b = 0; b < BLOCKS; b++) {
            if (countOf(b) == 0) {
                many++;
            }
        }
        return many;
    }

    private int sharedMany() {
        int many = 0;
        for (int b = 0; b < BLOCKS; b++) {
            if (countOf(b) > 1) {
                many++;
            }
        }
        return many;
    }

    // Stretches are blocks side by side with one count, as many as may be: runs, if it is 0, else bands.

    private boolean startsStretch(int b, boolean free) {
        return (countOf(b) == 0) == free && (b == 0 || countOf(b - 1) != countOf(b));
    }

    private int stretchStart(int k, boolean free) {
        int before = 0;
        for (int b = 0; b < BLOCKS; b++) {
            if (startsStretch(b, free)) {
                if (before == k) {
                    return b;
                }
                before++;
            }
        }
        return NONE;
    }

    private int stretchLength(int b) {
        int length = 1;
        for (int i = b + 1; i < BLOCKS && countOf(i) == countOf(b); i++) {
            length++;
        }
        return length;
    }

    private int stretchesMany(boolean free) {
        int many = 0;
        for (int b = 0; b < BLOCKS; b++) {
            if (startsStretch(b, free)) {
                many++;
            }
        }
        return many;
    }

    // Getting blocks.

    private void getBlocks(int n) {
        gotMany = 0;
        for (int round = 0; round < BLOCKS && gotMany < n; round++) {
            takeFromRun(bestRun(n - gotMany), n - gotMany);
        }
    }

    private int bestRun(int n) {
        int best = NONE;
        int bestLength = 0;
        for (int b = 0; b < BLOCKS; b++) {
            if (startsStretch(b, true) && fitsBetter(stretchLength(b), bestLength, n)) {
                best = b;
                bestLength = stretchLength(b);
            }
        }
        return best;
    }

    private static boolean fitsBetter(int length, int bestLength, int n) {
        if (length >= n) {
            return bestLength < n || length < bestLength;
        }
        return length > bestLength;
    }

    // A block that is got counts at once for the place that it is got for: so it is in no run any more.
    private void takeFromRun(int first, int n) {
        if (!isBlock(first)) {
            return;
        }
        int end = first + Math.min(n, stretchLength(first));
        for (int b = first; b < end && gotMany < got.length; b++) {
            addToCount(b, 1);
            got[gotMany] = b;
            gotMany++;
        }
    }

    // Owning places: first all that need a block are chosen, by the counts ahead of it, then all get theirs.

    private void chooseNeedy(int f, int first, int last, boolean holesToo) {
        needyMany = 0;
        for (int p = first; p <= last; p++) {
            addIfNeedy(f, p, holesToo);
        }
    }

    private void chooseCutThrough(int f, int from, int end) {
        needyMany = 0;
        for (int p = from / WIDTH; from < end && p * WIDTH < end; p++) {
            if (!isAllIn(f, p, from, end)) {
                addIfNeedy(f, p, false);
            }
        }
    }

    private void addIfNeedy(int f, int p, boolean holesToo) {
        int b = blockAt(f, p);
        boolean needs = isBlock(b) ? countOf(b) > 1 : holesToo;
        if (needs && needyMany < needy.length) {
            needy[needyMany] = p;
            needyMany++;
        }
    }

    private boolean isSpent() {
        return needyMany > freeMany();
    }

    private void ownNeedy(int f) {
        getBlocks(needyMany);
        for (int i = 0; i < needyMany && i < gotMany; i++) {
            giveBlock(f, needy[i], got[i]);
        }
    }

    private void giveBlock(int f, int p, int b) {
        int old = blockAt(f, p);
        for (int c = 0; c < WIDTH; c++) {
            setCell(b, c, cellOf(old, c));
        }
        putBlock(f, p, b);
        // It was counted already when it was got.
        addToCount(b, -1);
    }

    // Cells of places that are owned.

    private void setCells(int f, int from, int end, int v) {
        for (int i = from; i < end; i++) {
            setCell(blockAt(f, i / WIDTH), i % WIDTH, v);
        }
    }

    private boolean isAllIn(int f, int p, int from, int end) {
        return from <= p * WIDTH && Math.min((p + 1) * WIDTH, sizeOf(f)) <= end;
    }

    private int clearCells(int f, int from, int end) {
        int gone = 0;
        for (int p = from / WIDTH; from < end && p * WIDTH < end; p++) {
            if (!isAllIn(f, p, from, end)) {
                setCells(f, Math.max(from, p * WIDTH), Math.min(end, (p + 1) * WIDTH), 0);
            } else if (isBlock(blockAt(f, p))) {
                putBlock(f, p, NONE);
                gone++;
            }
        }
        return gone;
    }

    // The log of an exchange.

    private void openLog(int f, int p, int g, int q, int n) {
        logF = f;
        logP = p;
        logG = g;
        logQ = q;
        logSteps = n;
    }

    // A step exchanges two places, so done once more it is undone.
    private void doSteps(int from, int end) {
        for (int i = from; i < end; i++) {
            int one = blockAt(logF, logP + i);
            int other = blockAt(logG, logQ + i);
            putBlock(logF, logP + i, other);
            putBlock(logG, logQ + i, one);
        }
    }
}
