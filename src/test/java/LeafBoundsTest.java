/** The boundary cases of promises 1 to 4, and of leaves in "Terms": a method for each sentence. */
public final class LeafBoundsTest {
    private static final int NONE = LeafMatches.NONE;
    private static final int BOOK = LeafMatches.BOOK;
    private static final int SLIP = LeafMatches.SLIP;
    private static final int LEAST = Integer.MIN_VALUE;
    private static final int GREATEST = Integer.MAX_VALUE;

    public static void main(String[] args) {
        newHasNoLeaf();
        newHasNoFace();
        newHasNoPlanAndNothingWanted();
        thereAre32Leaves();
        leavesOfAllFlitchesCountTogether();
        aFlitchHasANumberOnce();
        aNumberStaysTakenWhateverTheLeafIsUsedFor();
        aRefusedLeafTakesNoNumber();
        flitchIs0To3();
        numberIs0To1000();
        widthIs1To12();
        heightIs1To12();
        greysAre0AtFirst();
        pixelOfNoSuchLeaf();
        pixelColumnIsOneOfTheLeaf();
        pixelRowIsOneOfTheLeaf();
        pixelGreyIs0To255();
        pixelTellsWhetherItWasAnother();
        aRefusedPixelKeepsTheGrey();
        reserveOfNoSuchLeaf();
        reserveOrderIs0To1000();
        reserveTellsWhetherItWasAnother();
        reserveOfAUsedLeaf();
        aRefusedReserveKeepsTheOrder();
        Check.done();
    }

    // Promise 1: "No leaf of any FLITCH, no face."

    private static void newHasNoLeaf() {
        LeafMatches x = new LeafMatches();
        Check.refuses("new: pixel of leaf", Check.INDEX, v -> x.pixel(v, 0, 0, 0), -1, 0, 1, 31);
        Check.refuses("new: reserve of leaf", Check.INDEX, v -> x.reserve(v, 0), -1, 0, 1, 31);
        Check.throwsJust("new: match", Check.STATE, () -> x.match(SLIP, 2));
        x.want(1);
        for (int flitch = 0; flitch < 4; flitch++) {
            Check.is("new: a face of flitch " + flitch, x.faces(flitch), NONE);
        }
        Check.is("new: the first leaf", x.leaf(0, 0, 1, 1), 0);
    }

    private static void newHasNoFace() {
        LeafMatches x = new LeafMatches();
        Check.refuses("new: apart", Check.INDEX, v -> x.apart(v), -1, 0, 1);
        Check.refuses("new: place", Check.INDEX, v -> x.place(v, 0, 0), -1, 0, 1);
        Check.refuses("new: at", Check.INDEX, v -> x.at(v, 0, 0), -1, 0, 1);
        Check.refuses("new: about", Check.INDEX, v -> x.about(v, 0), -1, 0, 1);
        Check.refuses("new: seam", Check.INDEX, v -> x.seam(v, 0), -1, 0, 1);
        Check.refuses("new: sum", Check.INDEX, v -> x.sum(v, 0, 0), -1, 0, 1);
        Check.refuses("new: mirrored", Check.INDEX, v -> x.mirrored(v, 0), -1, 0, 1);
        Check.refuses("new: balance", Check.INDEX, v -> x.balance(v), -1, 0, 1);
        Check.refuses("new: number", Check.INDEX, v -> x.number(v, 0, 0), -1, 0, 1);
    }

    private static void newHasNoPlanAndNothingWanted() {
        LeafMatches x = new LeafMatches();
        Check.refuses("new: planned", Check.STATE, v -> x.planned(v, 0), -1, 0, 1);
        Check.is("new: cleared", x.clear(), 0);
        Check.is("new: none wanted", x.faces(0), 0);
        LeafMatches first = new LeafMatches();
        Check.is("new: the first one wanted", first.want(1), 1);
    }

    // Promise 2 and "LEAVES 0 .. 31".

    private static void thereAre32Leaves() {
        LeafMatches x = new LeafMatches();
        for (int i = 0; i < 32; i++) {
            Check.is("leaf " + i, x.leaf(0, i, 1, 1), i);
        }
        Check.throwsJust("a 33rd leaf", Check.STATE, () -> x.leaf(0, 32, 1, 1));
        Check.throwsJust("a 33rd leaf, another flitch", Check.STATE, () -> x.leaf(3, 0, 1, 1));
        Check.is("leaf 31 has a grey", x.pixel(31, 0, 0, 1), true);
        Check.is("leaf 31 has an order", x.reserve(31, 1), true);
        Check.throwsJust("no leaf 32 to paint", Check.INDEX, () -> x.pixel(32, 0, 0, 0));
        Check.throwsJust("no leaf 32 to reserve", Check.INDEX, () -> x.reserve(32, 0));
    }

    private static void leavesOfAllFlitchesCountTogether() {
        LeafMatches x = new LeafMatches();
        for (int i = 0; i < 32; i++) {
            Check.is("leaf " + i + " of four flitches", x.leaf(i % 4, i / 4, 1, 1), i);
        }
        for (int flitch = 0; flitch < 4; flitch++) {
            int full = flitch;
            Check.throwsJust("a 33rd leaf, flitch " + flitch, Check.STATE, () -> x.leaf(full, 8, 1, 1));
        }
        for (int i = 0; i < 4; i++) {
            Check.is("face of 8", x.match(SLIP, 8), i);
            Check.is("its last leaf", x.place(i, 7, 0), 28 + i);
        }
        Check.throwsJust("used leaves are still leaves", Check.STATE, () -> x.leaf(0, 8, 1, 1));
    }

    /** "its flitch has that number": the edges of the numbers, and other flitches. */
    private static void aFlitchHasANumberOnce() {
        LeafMatches x = new LeafMatches();
        int[] numbers = {0, 1, 999, 1000};
        int told = 0;
        for (int flitch = 0; flitch < 4; flitch++) {
            for (int number : numbers) {
                int f = flitch;
                Check.is("number " + number + " of flitch " + flitch, x.leaf(flitch, number, 1, 1), told++);
                Check.throwsJust("twice " + number + " of " + flitch, Check.STATE, () -> x.leaf(f, number, 1, 1));
                Check.throwsJust("of another size", Check.STATE, () -> x.leaf(f, number, 12, 12));
            }
        }
    }

    private static void aNumberStaysTakenWhateverTheLeafIsUsedFor() {
        LeafMatches x = Sample.row(0, 5, 3, 1, 1);
        x.reserve(0, 1);
        Check.throwsJust("a reserved one's number", Check.STATE, () -> x.leaf(0, 5, 1, 1));
        x.match(BOOK, 2);
        Check.throwsJust("a used one's number", Check.STATE, () -> x.leaf(0, 6, 1, 1));
        Check.throwsJust("another used one's number", Check.STATE, () -> x.leaf(0, 7, 1, 1));
        x.apart(0);
        Check.throwsJust("the number of one that was used", Check.STATE, () -> x.leaf(0, 7, 1, 1));
        Check.is("the number behind", x.leaf(0, 8, 1, 1), 3);
        Check.is("the number before", x.leaf(0, 4, 1, 1), 4);
    }

    private static void aRefusedLeafTakesNoNumber() {
        LeafMatches x = new LeafMatches();
        Check.throwsJust("w 0", Check.ARGUMENT, () -> x.leaf(0, 5, 0, 1));
        Check.throwsJust("h 13", Check.ARGUMENT, () -> x.leaf(0, 5, 1, 13));
        Check.is("its number is free, it is the first", x.leaf(0, 5, 1, 1), 0);
        Check.throwsJust("taken", Check.STATE, () -> x.leaf(0, 5, 1, 1));
        Check.is("the next one is the second", x.leaf(0, 6, 1, 1), 1);
    }

    private static void flitchIs0To3() {
        LeafMatches x = new LeafMatches();
        Check.refuses("leaf: flitch", Check.ARGUMENT, v -> x.leaf(v, 0, 1, 1), -1, 4, -4, 5, 256, 1 << 16);
        Check.is("flitch 0", x.leaf(0, 0, 1, 1), 0);
        Check.is("flitch 3", x.leaf(3, 0, 1, 1), 1);
        Check.refuses("leaf: flitch, its number told", Check.ARGUMENT, v -> x.leaf(v, 0, 1, 1), -1, 4);
    }

    private static void numberIs0To1000() {
        LeafMatches x = new LeafMatches();
        Check.refuses("leaf: number", Check.ARGUMENT, v -> x.leaf(0, v, 1, 1), -1, 1001, 1 << 16);
        Check.is("number 0", x.leaf(0, 0, 1, 1), 0);
        Check.is("number 1000", x.leaf(0, 1000, 1, 1), 1);
    }

    private static void widthIs1To12() {
        LeafMatches x = new LeafMatches();
        Check.refuses("leaf: w", Check.ARGUMENT, v -> x.leaf(0, 0, v, 1), 0, -1, 13, 1 << 16);
        Check.throwsJust("w and h whose product is 0", Check.ARGUMENT, () -> x.leaf(0, 0, 1 << 16, 1 << 16));
        Check.throwsJust("w and h whose product is 1", Check.ARGUMENT, () -> x.leaf(0, 0, -1, -1));
        Check.is("w 1", x.leaf(0, 0, 1, 12), 0);
        Check.is("w 12", x.leaf(0, 1, 12, 1), 1);
    }

    private static void heightIs1To12() {
        LeafMatches x = new LeafMatches();
        Check.refuses("leaf: h", Check.ARGUMENT, v -> x.leaf(0, 0, 1, v), 0, -1, 13, 1 << 16);
        Check.is("1 and 1", x.leaf(0, 0, 1, 1), 0);
        Check.is("12 and 12", x.leaf(0, 1, 12, 12), 1);
    }

    // Promise 3 and "GREYS 0 .. 255, 0 at first".

    private static void greysAre0AtFirst() {
        LeafMatches x = Sample.leaves(12, 12, 1, 1);
        for (int y = 0; y < 12; y++) {
            for (int c = 0; c < 12; c++) {
                Check.is("at first " + c + " " + y, x.pixel(0, c, y, 0), false);
            }
        }
        Check.is("the last one is told", x.pixel(0, 11, 11, 255), true);
        Check.is("of one pixel", x.pixel(1, 0, 0, 0), false);
        for (int y = 0; y < 12; y++) {
            for (int c = 0; c < 12; c++) {
                boolean isLast = y == 11 && c == 11;
                Check.is("but the last one " + c + " " + y, x.pixel(0, c, y, 0), isLast);
            }
        }
    }

    private static void pixelOfNoSuchLeaf() {
        LeafMatches x = Sample.row(3);
        Check.is("leaf 0", x.pixel(0, 0, 0, 1), true);
        Check.is("leaf 2", x.pixel(2, 0, 0, 1), true);
        Check.refuses("pixel: leaf", Check.INDEX, v -> x.pixel(v, 0, 0, 2), -1, 3, 32);
    }

    /** A leaf of one column has no column 1, though it has as many pixels. */
    private static void pixelColumnIsOneOfTheLeaf() {
        LeafMatches x = Sample.leaves(12, 12, 1, 12, 1, 1, 5, 3);
        Check.is("column 11 of 12", x.pixel(0, 11, 0, 1), true);
        Check.refuses("pixel: x of 12", Check.INDEX, v -> x.pixel(0, v, 0, 1), -1, 12, -12);
        Check.is("column 0 of 1", x.pixel(1, 0, 11, 1), true);
        Check.refuses("pixel: x of 1", Check.INDEX, v -> x.pixel(1, v, 1, 1), -1, 1);
        Check.is("the only one", x.pixel(2, 0, 0, 1), true);
        Check.refuses("pixel: x of the only one", Check.INDEX, v -> x.pixel(2, v, 0, 1), -1, 1);
        Check.is("column 4 of 5", x.pixel(3, 4, 2, 1), true);
        Check.refuses("pixel: x of 5", Check.INDEX, v -> x.pixel(3, v, 1, 1), -1, 5);
    }

    private static void pixelRowIsOneOfTheLeaf() {
        LeafMatches x = Sample.leaves(12, 12, 12, 1, 1, 1, 3, 5);
        Check.is("row 11 of 12", x.pixel(0, 0, 11, 1), true);
        Check.refuses("pixel: y of 12", Check.INDEX, v -> x.pixel(0, 0, v, 1), -1, 12, -12);
        Check.is("row 0 of 1", x.pixel(1, 11, 0, 1), true);
        Check.refuses("pixel: y of 1", Check.INDEX, v -> x.pixel(1, 0, v, 1), -1, 1);
        Check.refuses("pixel: y of the only one", Check.INDEX, v -> x.pixel(2, 0, v, 1), -1, 1);
        Check.is("row 4 of 5", x.pixel(3, 2, 4, 1), true);
        Check.refuses("pixel: y of 5", Check.INDEX, v -> x.pixel(3, 1, v, 1), -1, 5);
        Check.throwsJust("x and y greatest", Check.INDEX, () -> x.pixel(0, GREATEST, GREATEST, 1));
        Check.throwsJust("x and y least", Check.INDEX, () -> x.pixel(0, LEAST, LEAST, 1));
    }

    private static void pixelGreyIs0To255() {
        LeafMatches x = Sample.row(1);
        Check.refuses("pixel: v", Check.ARGUMENT, v -> x.pixel(0, 0, 0, v), -1, 256, 1 << 16, -256);
        Check.is("255", x.pixel(0, 0, 0, 255), true);
        Check.is("0", x.pixel(0, 0, 0, 0), true);
    }

    private static void pixelTellsWhetherItWasAnother() {
        LeafMatches x = Sample.row(1);
        Check.is("0 to 0", x.pixel(0, 0, 0, 0), false);
        Check.is("0 to 1", x.pixel(0, 0, 0, 1), true);
        Check.is("1 to 1", x.pixel(0, 0, 0, 1), false);
        Check.is("1 to 255", x.pixel(0, 0, 0, 255), true);
        Check.is("255 to 255", x.pixel(0, 0, 0, 255), false);
        Check.is("255 to 0", x.pixel(0, 0, 0, 0), true);
    }

    private static void aRefusedPixelKeepsTheGrey() {
        LeafMatches x = Sample.leaves(2, 2, 2, 2);
        x.pixel(0, 1, 1, 7);
        Check.throwsJust("v 256", Check.ARGUMENT, () -> x.pixel(0, 1, 1, 256));
        Check.throwsJust("x 2", Check.INDEX, () -> x.pixel(0, 2, 0, 9));
        Check.throwsJust("x 3", Check.INDEX, () -> x.pixel(0, 3, 0, 9));
        Check.is("it is 7", x.pixel(0, 1, 1, 7), false);
        Check.is("the next row is as it was", x.pixel(0, 0, 1, 0), false);
    }

    // Promise 4 and "A leaf may be RESERVED for an order; a leaf in a face is USED."

    private static void reserveOfNoSuchLeaf() {
        LeafMatches x = Sample.row(3);
        Check.is("leaf 0", x.reserve(0, 1), true);
        Check.is("leaf 2", x.reserve(2, 1), true);
        Check.refuses("reserve: leaf", Check.INDEX, v -> x.reserve(v, 1), -1, 3, 32);
    }

    private static void reserveOrderIs0To1000() {
        LeafMatches x = Sample.row(2);
        Check.refuses("reserve: order", Check.ARGUMENT, v -> x.reserve(0, v), -1, 1001, -1000);
        Check.is("1000", x.reserve(0, 1000), true);
        Check.throwsJust("for 1000 it is reserved", Check.STATE, () -> x.match(SLIP, 2));
        Check.is("1", x.reserve(0, 1), true);
        Check.throwsJust("for 1 it is reserved", Check.STATE, () -> x.match(SLIP, 2));
        Check.is("0", x.reserve(0, 0), true);
        Check.is("for 0 it is not", x.match(SLIP, 2), 0);
    }

    private static void reserveTellsWhetherItWasAnother() {
        LeafMatches x = Sample.row(2);
        Check.is("none to none", x.reserve(0, 0), false);
        Check.is("none to 1", x.reserve(0, 1), true);
        Check.is("1 to 1", x.reserve(0, 1), false);
        Check.is("1 to 1000", x.reserve(0, 1000), true);
        Check.is("1000 to 1000", x.reserve(0, 1000), false);
        Check.is("1000 to none", x.reserve(0, 0), true);
        Check.is("none again", x.reserve(0, 0), false);
        Check.is("the other one is not told", x.reserve(1, 0), false);
    }

    private static void reserveOfAUsedLeaf() {
        LeafMatches x = Sample.row(4);
        x.match(BOOK, 2);
        Check.throwsJust("the first used", Check.STATE, () -> x.reserve(0, 1));
        Check.throwsJust("the last used", Check.STATE, () -> x.reserve(1, 1000));
        Check.throwsJust("used, for none", Check.STATE, () -> x.reserve(0, 0));
        Check.is("behind the last used", x.reserve(2, 1), true);
        x.apart(0);
        Check.is("not used any more, for none as before", x.reserve(0, 0), false);
        Check.is("not used any more", x.reserve(1, 1), true);
    }

    private static void aRefusedReserveKeepsTheOrder() {
        LeafMatches x = Sample.row(2);
        x.reserve(0, 1000);
        Check.throwsJust("1001", Check.ARGUMENT, () -> x.reserve(0, 1001));
        Check.throwsJust("-1", Check.ARGUMENT, () -> x.reserve(0, -1));
        Check.is("it is 1000", x.reserve(0, 1000), false);
        x.reserve(0, 0);
        x.match(SLIP, 2);
        Check.throwsJust("used", Check.STATE, () -> x.reserve(0, 5));
        x.apart(0);
        Check.is("it is for none", x.reserve(0, 0), false);
    }
}
