public final class LeafMatches {
    public static final int NONE = -1;
    public static final int BOOK = 0, SLIP = 1, REVERSED = 2, DIAMOND = 3;

    private static final int MOST_FLITCHES = 4;
    private static final int MOST_LEAVES = 32;
    private static final int MOST_FACES = 8;
    private static final int MOST_WANTED = 8;
    private static final int LEAST_PIECES = 2;
    private static final int MOST_PIECES = 8;
    private static final int DIAMOND_PIECES = 4;
    private static final int DIAMOND_SEAMS = 2;
    private static final int GREATEST_NUMBER = 1000;
    private static final int GREATEST_ORDER = 1000;
    private static final int GREATEST_SIDE = 12;
    private static final int GREATEST_GREY = 255;
    private static final int GREATEST_SHIFT = 3;
    private static final int GREATEST_WANT = 100;

    /** In the turn in which the document prefers them when their sums are alike. */
    private static final int[] SHIFTS = {0, -1, 1, -2, 2, -3, 3};

    /** At the index of its kind. */
    private static final String KIND_LETTERS = "BSRD";

    private final Leaf[] leaves = new Leaf[MOST_LEAVES];
    private int leafCount = 0;
    private final Face[] madeFaces = new Face[MOST_FACES];
    private int faceCount = 0;
    private final Planner planner = new Planner();

    /** Filled anew by gatherFree for each call that needs it. */
    private final Leaf[] free = new Leaf[MOST_LEAVES];

    public LeafMatches() {
    }

    public int leaf(int flitch, int number, int w, int h) throws IllegalStateException, IllegalArgumentException {
        if (leafCount >= MOST_LEAVES) {
            throw new IllegalStateException("there are 32 leaves");
        }
        if (isNumberTaken(flitch, number)) {
            throw new IllegalStateException("the flitch has a leaf of that number");
        }
        if (!isWithin(flitch, 0, MOST_FLITCHES - 1) || !isWithin(number, 0, GREATEST_NUMBER)) {
            throw new IllegalArgumentException("flitch is not 0 .. 3 or number not 0 .. 1000");
        }
        if (!isWithin(w, 1, GREATEST_SIDE) || !isWithin(h, 1, GREATEST_SIDE)) {
            throw new IllegalArgumentException("w or h is not 1 .. 12");
        }
        leaves[leafCount] = new Leaf(leafCount, flitch, number, w, h);
        planner.forgetPlan();
        return leafCount++;
    }

    public boolean pixel(int leaf, int x, int y, int v) throws IndexOutOfBoundsException, IllegalArgumentException {
        Leaf painted = leafOrNull(leaf);
        if (painted == null || !painted.holds(x, y)) {
            throw new IndexOutOfBoundsException("no such leaf, column or row");
        }
        if (!isWithin(v, 0, GREATEST_GREY)) {
            throw new IllegalArgumentException("v is not 0 .. 255");
        }
        return painted.paint(x, y, v);
    }

    public boolean reserve(int leaf, int order) throws IndexOutOfBoundsException, IllegalStateException, IllegalArgumentException {
        Leaf kept = leafOrNull(leaf);
        if (kept == null) {
            throw new IndexOutOfBoundsException("no such leaf");
        }
        if (kept.used) {
            throw new IllegalStateException("the leaf is used");
        }
        if (!isWithin(order, 0, GREATEST_ORDER)) {
            throw new IllegalArgumentException("order is not 0 .. 1000");
        }
        boolean isOther = kept.order != order;
        kept.order = order;
        planner.forgetPlan();
        return isOther;
    }

    public int match(int kind, int n) throws IllegalStateException, IllegalArgumentException {
        if (faceCount >= MOST_FACES) {
            throw new IllegalStateException("there are 8 faces");
        }
        int flitch = leastFlitchWith(n);
        if (flitch == NONE) {
            throw new IllegalStateException("no flitch has so many free leaves");
        }
        if (!isWithin(kind, BOOK, DIAMOND)) {
            throw new IllegalArgumentException("there is no such kind");
        }
        if (!isWithin(n, LEAST_PIECES, MOST_PIECES) || (kind == DIAMOND && n != DIAMOND_PIECES)) {
            throw new IllegalArgumentException("n is not 2 .. 8, or not 4 for a diamond");
        }
        gatherFree(flitch);
        if (isBroken(n)) {
            return NONE;
        }
        Face face = new Face(kind, free, n);
        face.markUsed(true);
        madeFaces[faceCount] = face;
        planner.forgetPlan();
        return faceCount++;
    }

    public int apart(int face) throws IndexOutOfBoundsException {
        Face gone = faceOrNull(face);
        if (gone == null) {
            throw new IndexOutOfBoundsException("no such face");
        }
        gone.markUsed(false);
        for (int i = face; i < faceCount - 1; i++) {
            madeFaces[i] = madeFaces[i + 1];
        }
        faceCount--;
        madeFaces[faceCount] = null;
        planner.forgetPlan();
        return faceCount;
    }

    public int place(int face, int k, int what) throws IndexOutOfBoundsException, IllegalArgumentException {
        Face asked = faceOrNull(face);
        if (asked == null || !asked.hasPiece(k)) {
            throw new IndexOutOfBoundsException("no such face or piece");
        }
        asked.layOut();
        Piece piece = asked.pieces[k];
        switch (what) {
            case 0:
                return piece.leaf.index;
            case 1:
                return piece.isMirrored ? 1 : 0;
            case 2:
                return piece.isTurned ? 1 : 0;
            case 3:
                return piece.begin;
            case 4:
                return piece.top;
            default:
                throw new IllegalArgumentException("what is not 0 .. 4");
        }
    }

    public int at(int face, int x, int y) throws IndexOutOfBoundsException {
        Face asked = faceOrNull(face);
        if (asked == null) {
            throw new IndexOutOfBoundsException("no such face");
        }
        asked.layOut();
        return asked.greySeen(x, y);
    }

    public int about(int face, int what) throws IndexOutOfBoundsException, IllegalArgumentException {
        Face asked = faceOrNull(face);
        if (asked == null) {
            throw new IndexOutOfBoundsException("no such face");
        }
        asked.layOut();
        switch (what) {
            case 0:
                return asked.sizeAcross();
            case 1:
                return asked.greatestBottom() - asked.leastTop();
            case 2:
                return asked.pieces.length;
            case 3:
                return asked.kind;
            default:
                throw new IllegalArgumentException("what is not 0 .. 3");
        }
    }

    public int seam(int face, int k) throws IndexOutOfBoundsException {
        Face asked = faceOrNull(face);
        if (asked == null || !asked.hasSeam(k)) {
            throw new IndexOutOfBoundsException("no such face or seam");
        }
        return asked.bestShift(k);
    }

    public long sum(int face, int k, int shift) throws IndexOutOfBoundsException, IllegalArgumentException {
        Face asked = faceOrNull(face);
        if (asked == null || !asked.hasSeam(k)) {
            throw new IndexOutOfBoundsException("no such face or seam");
        }
        if (!isWithin(shift, -GREATEST_SHIFT, GREATEST_SHIFT)) {
            throw new IllegalArgumentException("shift is not -3 .. 3");
        }
        return asked.differenceAt(k, shift);
    }

    public boolean mirrored(int face, int k) throws IndexOutOfBoundsException {
        Face asked = faceOrNull(face);
        if (asked == null || !asked.hasSeam(k)) {
            throw new IndexOutOfBoundsException("no such face or seam");
        }
        return asked.differenceAt(k, 0) == 0;
    }

    public boolean balance(int face) throws IndexOutOfBoundsException {
        Face asked = faceOrNull(face);
        if (asked == null) {
            throw new IndexOutOfBoundsException("no such face");
        }
        asked.layOut();
        return asked.isBalanced();
    }

    public int number(int face, int k, int i) throws IndexOutOfBoundsException, IllegalArgumentException {
        Face asked = faceOrNull(face);
        if (asked == null || !asked.hasPiece(k)) {
            throw new IndexOutOfBoundsException("no such face or piece");
        }
        if (i < 0) {
            throw new IllegalArgumentException("i is below 0");
        }
        StringBuilder written = writtenOn(face, asked.kind, asked.pieces[k]);
        return i < written.length() ? written.charAt(i) : NONE;
    }

    public int want(int w) throws IllegalStateException, IllegalArgumentException {
        if (planner.wantedCount >= MOST_WANTED) {
            throw new IllegalStateException("there are 8 faces wanted");
        }
        if (!isWithin(w, 1, GREATEST_WANT)) {
            throw new IllegalArgumentException("w is not 1 .. 100");
        }
        planner.addWanted(w);
        return planner.wantedCount;
    }

    public int clear() {
        int were = planner.wantedCount;
        planner.dropWanted();
        return were;
    }

    public int faces(int flitch) throws IllegalArgumentException {
        if (!isWithin(flitch, 0, MOST_FLITCHES - 1)) {
            throw new IllegalArgumentException("flitch is not 0 .. 3");
        }
        int count = gatherFree(flitch);
        return planner.planFrom(free, count);
    }

    public int planned(int k, int what) throws IllegalStateException, IndexOutOfBoundsException, IllegalArgumentException {
        if (!planner.isFound) {
            throw new IllegalStateException("no plan was found as things are");
        }
        if (!isWithin(k, 0, planner.wantedCount - 1)) {
            throw new IndexOutOfBoundsException("no such face wanted");
        }
        switch (what) {
            case 0:
                return planner.firstLeaf[k];
            case 1:
                return planner.rowLength[k];
            default:
                throw new IllegalArgumentException("what is not 0 or 1");
        }
    }

    private static boolean isWithin(int value, int least, int greatest) {
        return value >= least && value <= greatest;
    }

    private Leaf leafOrNull(int index) {
        return isWithin(index, 0, leafCount - 1) ? leaves[index] : null;
    }

    private Face faceOrNull(int index) {
        return isWithin(index, 0, faceCount - 1) ? madeFaces[index] : null;
    }

    private boolean isNumberTaken(int flitch, int number) {
        for (int i = 0; i < leafCount; i++) {
            if (leaves[i].flitch == flitch && leaves[i].number == number) {
                return true;
            }
        }
        return false;
    }

    private int countFree(int flitch) {
        int count = 0;
        for (int i = 0; i < leafCount; i++) {
            if (leaves[i].flitch == flitch && leaves[i].isFree()) {
                count++;
            }
        }
        return count;
    }

    private int leastFlitchWith(int n) {
        for (int flitch = 0; flitch < MOST_FLITCHES; flitch++) {
            if (countFree(flitch) >= n) {
                return flitch;
            }
        }
        return NONE;
    }

    /** Leaves may be told in any order of numbers, so each one is put in at its place. */
    private int gatherFree(int flitch) {
        int count = 0;
        for (int i = 0; i < leafCount; i++) {
            Leaf next = leaves[i];
            if (next.flitch != flitch || !next.isFree()) {
                continue;
            }
            int slot = count;
            while (slot > 0 && free[slot - 1].number > next.number) {
                free[slot] = free[slot - 1];
                slot--;
            }
            free[slot] = next;
            count++;
        }
        return count;
    }

    private boolean isBroken(int n) {
        for (int i = 1; i < n; i++) {
            if (!free[i].follows(free[i - 1])) {
                return true;
            }
        }
        return false;
    }

    private static StringBuilder writtenOn(int face, int kind, Piece piece) {
        StringBuilder text = new StringBuilder();
        text.append('F');
        text.append(face + 1);
        text.append(KIND_LETTERS.charAt(kind));
        text.append(piece.leaf.number);
        if (piece.isMirrored) {
            text.append('m');
        }
        if (piece.isTurned) {
            text.append('t');
        }
        return text;
    }

    private static final class Leaf {
        final int index;
        final int flitch;
        final int number;
        final int width;
        final int height;
        final int[] greys;
        int order = 0;
        boolean used = false;

        Leaf(int index, int flitch, int number, int width, int height) {
            this.index = index;
            this.flitch = flitch;
            this.number = number;
            this.width = width;
            this.height = height;
            this.greys = new int[width * height];
        }

        boolean isFree() {
            return !used && order == 0;
        }

        boolean follows(Leaf before) {
            return number == before.number + 1;
        }

        boolean holds(int x, int y) {
            return x >= 0 && x < width && y >= 0 && y < height;
        }

        int greyOrNone(int x, int y) {
            return holds(x, y) ? greys[y * width + x] : NONE;
        }

        boolean paint(int x, int y, int grey) {
            int spot = y * width + x;
            boolean isOther = greys[spot] != grey;
            greys[spot] = grey;
            return isOther;
        }
    }

    private static final class Piece {
        final Leaf leaf;
        final boolean isMirrored;
        final boolean isTurned;
        int begin = 0;
        int top = 0;

        Piece(Leaf leaf, boolean isMirrored, boolean isTurned) {
            this.leaf = leaf;
            this.isMirrored = isMirrored;
            this.isTurned = isTurned;
        }

        int end() {
            return begin + leaf.width;
        }

        int bottom() {
            return top + leaf.height;
        }

        /** The column and the row are the piece's own, as it lies in the face. */
        int greyShown(int column, int row) {
            int x = isMirrored ? leaf.width - 1 - column : column;
            int y = isTurned ? leaf.height - 1 - row : row;
            return leaf.greyOrNone(x, y);
        }
    }

    private static final class Face {
        final int kind;
        final Piece[] pieces;

        Face(int kind, Leaf[] row, int n) {
            this.kind = kind;
            this.pieces = new Piece[n];
            for (int k = 0; k < n; k++) {
                boolean isOdd = k % 2 == 1;
                boolean isMirrored = isOdd && (kind == BOOK || kind == DIAMOND);
                boolean isTurned = kind == DIAMOND ? k >= 2 : isOdd && kind == REVERSED;
                this.pieces[k] = new Piece(row[k], isMirrored, isTurned);
            }
        }

        void markUsed(boolean used) {
            for (Piece piece : pieces) {
                piece.leaf.used = used;
            }
        }

        boolean hasPiece(int k) {
            return isWithin(k, 0, pieces.length - 1);
        }

        boolean hasSeam(int k) {
            int seams = kind == DIAMOND ? DIAMOND_SEAMS : pieces.length - 1;
            return isWithin(k, 0, seams - 1);
        }

        /** Done anew before each look at the places: the tops hang on the greys as they are. */
        void layOut() {
            for (int k = 1; k < pieces.length; k++) {
                if (kind == DIAMOND) {
                    pieces[k].begin = k % 2 == 1 ? pieces[0].end() : 0;
                    pieces[k].top = k >= 2 ? pieces[0].bottom() : 0;
                } else {
                    pieces[k].begin = pieces[k - 1].end();
                    pieces[k].top = pieces[k - 1].top + bestShift(k - 1);
                }
            }
        }

        int differenceAt(int seam, int shift) {
            int leftOne = kind == DIAMOND ? 2 * seam : seam;
            Piece left = pieces[leftOne];
            Piece right = pieces[leftOne + 1];
            int difference = 0;
            for (int row = 0; row < left.leaf.height; row++) {
                int here = left.greyShown(left.leaf.width - 1, row);
                int there = right.greyShown(0, row - shift);
                difference += there == NONE ? GREATEST_GREY : Math.abs(here - there);
            }
            return difference;
        }

        int bestShift(int seam) {
            int best = SHIFTS[0];
            int least = differenceAt(seam, best);
            for (int i = 1; i < SHIFTS.length; i++) {
                int difference = differenceAt(seam, SHIFTS[i]);
                if (difference < least) {
                    least = difference;
                    best = SHIFTS[i];
                }
            }
            return best;
        }

        int sizeAcross() {
            int size = 0;
            for (Piece piece : pieces) {
                size = Math.max(size, piece.end());
            }
            return size;
        }

        int leastTop() {
            int least = pieces[0].top;
            for (Piece piece : pieces) {
                least = Math.min(least, piece.top);
            }
            return least;
        }

        int greatestBottom() {
            int greatest = pieces[0].bottom();
            for (Piece piece : pieces) {
                greatest = Math.max(greatest, piece.bottom());
            }
            return greatest;
        }

        int greySeen(int x, int y) {
            if (x < 0 || y < 0) {
                return NONE;
            }
            int row = y + leastTop();
            for (Piece piece : pieces) {
                int grey = piece.greyShown(x - piece.begin, row - piece.top);
                if (grey != NONE) {
                    return grey;
                }
            }
            return NONE;
        }

        /**
         * Twice the places are looked at, so that no half is lost. A piece that begins at the
         * middle has a seam there: those that begin at 0 never do.
         */
        boolean isBalanced() {
            int size = sizeAcross();
            for (Piece piece : pieces) {
                if (2 * piece.begin == size || piece.begin + piece.end() == size) {
                    return true;
                }
            }
            return false;
        }
    }

    /**
     * Rows longer than a face needs always lose more, so a face that begins at a leaf gets
     * just one row there; what is left to search is which faces begin where.
     */
    private static final class Planner {
        private static final int NO_WAY = 1000000;
        private static final int NO_ROW = 0;

        final int[] wanted = new int[MOST_WANTED];
        int wantedCount = 0;
        boolean isFound = false;
        final int[] firstLeaf = new int[MOST_WANTED];
        final int[] rowLength = new int[MOST_WANTED];

        /** By leaf and face: the place behind the row that begins there, and its loss. */
        private int[] rowEnd = new int[0];
        private int[] rowLoss = new int[0];

        /** By leaf and the set of faces that have their rows before it: the least loss from there on. */
        private int[] leastLoss = new int[0];
        private int sets = 1;

        Planner() {
        }

        void forgetPlan() {
            isFound = false;
        }

        void addWanted(int width) {
            wanted[wantedCount] = width;
            wantedCount++;
            isFound = false;
        }

        void dropWanted() {
            wantedCount = 0;
            isFound = false;
        }

        /** A plan found before stays the latest one if none is found now. */
        int planFrom(Leaf[] row, int count) {
            sets = 1 << wantedCount;
            makeRoom(count);
            findRows(row, count);
            findLeastLoss(count);
            int loss = leastLoss[0];
            if (loss >= NO_WAY) {
                return NONE;
            }
            keepPlan(row, count);
            isFound = true;
            return loss;
        }

        private void makeRoom(int count) {
            rowEnd = grown(rowEnd, count * MOST_WANTED);
            rowLoss = grown(rowLoss, count * MOST_WANTED);
            leastLoss = grown(leastLoss, (count + 1) * sets);
        }

        /** Doubled at least, so that an object that grows by and by makes few of them. */
        private static int[] grown(int[] old, int length) {
            return old.length >= length ? old : new int[Math.max(length, 2 * old.length)];
        }

        private void findRows(Leaf[] row, int count) {
            for (int start = 0; start < count; start++) {
                for (int face = 0; face < wantedCount; face++) {
                    findRow(row, count, start, face);
                }
            }
        }

        private void findRow(Leaf[] row, int count, int start, int face) {
            int spot = start * MOST_WANTED + face;
            int width = 0;
            rowEnd[spot] = NO_ROW;
            for (int i = start; i < count; i++) {
                if (i > start && !row[i].follows(row[i - 1])) {
                    return;
                }
                width += row[i].width;
                if (width >= wanted[face]) {
                    rowEnd[spot] = i + 1;
                    rowLoss[spot] = width - wanted[face];
                    return;
                }
            }
        }

        /** From the last leaf on, as each one builds on those behind it. */
        private void findLeastLoss(int count) {
            for (int set = 0; set < sets; set++) {
                leastLoss[count * sets + set] = set == sets - 1 ? 0 : NO_WAY;
            }
            for (int start = count - 1; start >= 0; start--) {
                for (int set = 0; set < sets; set++) {
                    leastLoss[start * sets + set] = leastLoss[(start + 1) * sets + set];
                }
                for (int face = 0; face < wantedCount; face++) {
                    lowerByFace(start, face);
                }
            }
        }

        private void lowerByFace(int start, int face) {
            int bit = 1 << face;
            int end = rowEnd[start * MOST_WANTED + face];
            int loss = rowLoss[start * MOST_WANTED + face];
            if (end == NO_ROW) {
                return;
            }
            for (int set = 0; set < sets; set++) {
                if ((set & bit) == 0) {
                    int whole = loss + leastLoss[end * sets + (set | bit)];
                    leastLoss[start * sets + set] = Math.min(whole, leastLoss[start * sets + set]);
                }
            }
        }

        private void keepPlan(Leaf[] row, int count) {
            int set = 0;
            int behind = 0;
            for (int start = 0; start < count; start++) {
                int face = start < behind ? NONE : faceBegunAt(start, set);
                if (face != NONE) {
                    behind = rowEnd[start * MOST_WANTED + face];
                    firstLeaf[face] = row[start].index;
                    rowLength[face] = behind - start;
                    set |= 1 << face;
                }
            }
        }

        private int faceBegunAt(int start, int set) {
            for (int face = 0; face < wantedCount; face++) {
                int bit = 1 << face;
                int end = rowEnd[start * MOST_WANTED + face];
                int loss = rowLoss[start * MOST_WANTED + face];
                if ((set & bit) == 0 && end != NO_ROW
                        && loss + leastLoss[end * sets + (set | bit)] == leastLoss[start * sets + set]) {
                    return face;
                }
            }
            return NONE;
        }
    }
}
