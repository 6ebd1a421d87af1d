/** The boundary cases of promises 7, 8, 9, 13 and 14, and of pieces in "Terms". */
public final class PieceBoundsTest {
    private static final int NONE = LeafMatches.NONE;
    private static final int BOOK = LeafMatches.BOOK;
    private static final int SLIP = LeafMatches.SLIP;
    private static final int REVERSED = LeafMatches.REVERSED;
    private static final int DIAMOND = LeafMatches.DIAMOND;
    private static final int LEAST = Integer.MIN_VALUE;
    private static final int GREATEST = Integer.MAX_VALUE;

    public static void main(String[] args) {
        placeOfNoSuchFace();
        placeOfNoSuchPiece();
        placeWhatIs0To4();
        placeOfTheWidest();
        placeOfTheSteepest();
        atOfNoSuchFace();
        atBesideTheFace();
        atAboveAndBelowEachPiece();
        atTheGreatestAndTheLeastInts();
        atOfALeafOfOnePixel();
        atOfADiamondWhereNoPieceIs();
        aboutOfNoSuchFace();
        aboutWhatIs0To3();
        aboutOfTheLeastAndTheGreatestFace();
        balanceOfNoSuchFace();
        balanceHalfAColumnOff();
        numberOfNoSuchFaceOrPiece();
        numberIBelow0AndBehindIt();
        numberOfTheLeastAndTheGreatest();
        Check.done();
    }

    // Promise 7.

    private static void placeOfNoSuchFace() {
        LeafMatches x = Sample.row(4);
        x.match(SLIP, 2);
        Check.refuses("place: face of one", Check.INDEX, v -> x.place(v, 0, 0), -1, 1, 8);
        x.match(SLIP, 2);
        Check.is("face 1 is there", x.place(1, 0, 0), 2);
        Check.refuses("place: face of two", Check.INDEX, v -> x.place(v, 0, 0), -1, 2);
        x.apart(0);
        Check.throwsJust("place: face 1 has got number 0", Check.INDEX, () -> x.place(1, 0, 0));
    }

    private static void placeOfNoSuchPiece() {
        for (int n = 2; n <= 8; n++) {
            LeafMatches x = Sample.row(8);
            x.match(SLIP, n);
            Check.is("the first of " + n, x.place(0, 0, 0), 0);
            Check.is("the last of " + n, x.place(0, n - 1, 0), n - 1);
            Check.refuses("place: piece of " + n, Check.INDEX, v -> x.place(0, v, 0), -1, n, 9);
        }
        LeafMatches diamond = Sample.row(4);
        diamond.match(DIAMOND, 4);
        Check.is("the last of a diamond", diamond.place(0, 3, 0), 3);
        Check.refuses("place: piece of a diamond", Check.INDEX, v -> diamond.place(0, v, 0), -1, 4);
    }

    private static void placeWhatIs0To4() {
        LeafMatches x = Sample.row(0, 0, 2, 7, 1);
        x.match(BOOK, 2);
        Check.is("what 0", x.place(0, 1, 0), 1);
        Check.is("what 1", x.place(0, 1, 1), 1);
        Check.is("what 2", x.place(0, 1, 2), 0);
        Check.is("what 3", x.place(0, 1, 3), 7);
        Check.is("what 4", x.place(0, 1, 4), 0);
        Check.refuses("place: what", Check.ARGUMENT, v -> x.place(0, 0, v), -1, 5, 6);
        Check.refuses("place: what of the last", Check.ARGUMENT, v -> x.place(0, 1, v), -1, 5, 6);
    }

    private static void placeOfTheWidest() {
        LeafMatches wide = Sample.row(0, 0, 8, 12, 1);
        wide.match(REVERSED, 8);
        Check.is("8 of 12 columns", Sample.places(wide, 0, 3), "0 12 24 36 48 60 72 84");
        LeafMatches slim = Sample.row(0, 0, 8, 1, 1);
        slim.match(BOOK, 8);
        Check.is("8 of one column", Sample.places(slim, 0, 3), "0 1 2 3 4 5 6 7");
        LeafMatches diamond = Sample.leaves(12, 12, 1, 1, 1, 1, 1, 1);
        diamond.match(DIAMOND, 4);
        Check.is("diamond of the widest", Sample.places(diamond, 0, 3), "0 12 0 12");
        Check.is("diamond of the highest", Sample.places(diamond, 0, 4), "0 0 12 12");
    }

    /** Each shift is 3 at most, so eight pieces' tops go up or down by 21 at most. */
    private static void placeOfTheSteepest() {
        Check.is("down", Sample.places(Sample.stairs(8, 3), 0, 4), "0 3 6 9 12 15 18 21");
        Check.is("up", Sample.places(Sample.stairs(8, -3), 0, 4), "0 -3 -6 -9 -12 -15 -18 -21");
        Check.is("level", Sample.places(Sample.stairs(8, 0), 0, 4), "0 0 0 0 0 0 0 0");
        Check.is("two down", Sample.places(Sample.stairs(2, 3), 0, 4), "0 3");
        Check.is("two up", Sample.places(Sample.stairs(2, -3), 0, 4), "0 -3");
    }

    // Promise 8.

    private static void atOfNoSuchFace() {
        LeafMatches x = Sample.row(4);
        x.match(SLIP, 2);
        Check.is("face 0 is there", x.at(0, 0, 0), 0);
        Check.refuses("at: face", Check.INDEX, v -> x.at(v, 0, 0), -1, 1, 8);
        Check.refuses("at: face, nowhere", Check.INDEX, v -> x.at(v, -1, -1), -1, 1, 8);
    }

    private static void atBesideTheFace() {
        LeafMatches x = Sample.leaves(12, 2, 12, 2);
        Sample.column(x, 0, 0, 10, 11);
        Sample.column(x, 1, 0, 20, 21);
        x.match(BOOK, 2);
        Check.is("its first column", x.at(0, 0, 1), 11);
        Check.is("left of it", x.at(0, -1, 1), NONE);
        Check.is("its last column", x.at(0, 23, 1), 21);
        Check.is("right of it", x.at(0, 24, 1), NONE);
        Check.is("its first row", x.at(0, 0, 0), 10);
        Check.is("above it", x.at(0, 0, -1), NONE);
        Check.is("below it", x.at(0, 0, 2), NONE);
        Check.is("no wrap to the next row", x.at(0, 24, 0) + " " + x.at(0, 12, -1), "-1 -1");
    }

    private static void atAboveAndBelowEachPiece() {
        for (int shift = -3; shift <= 3; shift += 6) {
            LeafMatches x = Sample.stairs(8, shift);
            for (int k = 0; k < 8; k++) {
                int top = shift > 0 ? 3 * k : 21 - 3 * k;
                boolean isSeen = x.at(0, k, top) != NONE && x.at(0, k, top + 11) != NONE;
                Check.is("stairs " + shift + " piece " + k, isSeen, true);
                Check.is("above it", x.at(0, k, top - 1), NONE);
                Check.is("below it", x.at(0, k, top + 12), NONE);
            }
        }
    }

    private static void atTheGreatestAndTheLeastInts() {
        int[] far = {LEAST, LEAST + 1, LEAST + 21, LEAST + 33, -96, -33, -22, -1, 96, 97, GREATEST - 33, GREATEST - 21,
                GREATEST - 1, GREATEST};
        LeafMatches[] all = {Sample.stairs(8, 3), Sample.stairs(8, -3), Sample.row(4), Sample.row(8), Sample.row(8)};
        all[2].match(DIAMOND, 4);
        all[3].match(BOOK, 8);
        all[4].match(REVERSED, 8);
        for (int i = 0; i < all.length; i++) {
            for (int v : far) {
                String where = "face " + i + " at " + v;
                Check.is(where + " across", all[i].at(0, v, 0), NONE);
                Check.is(where + " down", all[i].at(0, 0, v), NONE);
                Check.is(where + " down in the last piece", all[i].at(0, i == 2 ? 1 : 7, v), NONE);
                Check.is(where + " both", all[i].at(0, v, v), NONE);
                Check.is(where + " against", all[i].at(0, v, -v), NONE);
            }
        }
    }

    private static void atOfALeafOfOnePixel() {
        LeafMatches x = Sample.row(2);
        x.pixel(1, 0, 0, 255);
        x.match(REVERSED, 2);
        Check.is("the first and the last", x.at(0, 0, 0) + " " + x.at(0, 1, 0), "0 255");
        Check.is("a grey of 0 is no NONE", x.at(0, 0, 0), 0);
    }

    /** Pieces 0 to 3 are 2 x 2, 1 x 1, 1 x 1 and 3 x 1: there are holes below 1 and right of 2. */
    private static void atOfADiamondWhereNoPieceIs() {
        LeafMatches x = Sample.leaves(2, 2, 1, 1, 1, 1, 3, 1);
        x.match(DIAMOND, 4);
        StringBuilder seen = new StringBuilder();
        for (int y = -1; y <= 3; y++) {
            for (int c = -1; c <= 5; c++) {
                seen.append(x.at(0, c, y) == NONE ? '.' : 'o');
            }
            seen.append(' ');
        }
        Check.is("diamond", seen.toString(), "....... .ooo... .oo.... .o.ooo. ....... ");
    }

    // Promise 9.

    private static void aboutOfNoSuchFace() {
        LeafMatches x = Sample.row(4);
        x.match(SLIP, 2);
        Check.is("face 0 is there", x.about(0, 2), 2);
        Check.refuses("about: face", Check.INDEX, v -> x.about(v, 0), -1, 1, 8);
    }

    private static void aboutWhatIs0To3() {
        LeafMatches x = Sample.row(0, 0, 2, 5, 7);
        x.match(REVERSED, 2);
        Check.is("what 0", x.about(0, 0), 10);
        Check.is("what 1", x.about(0, 1), 7);
        Check.is("what 2", x.about(0, 2), 2);
        Check.is("what 3", x.about(0, 3), REVERSED);
        Check.refuses("about: what", Check.ARGUMENT, v -> x.about(0, v), -1, 4, 5);
    }

    private static String sizes(LeafMatches x, int kind, int n) {
        x.match(kind, n);
        return x.about(0, 0) + " " + x.about(0, 1);
    }

    private static void aboutOfTheLeastAndTheGreatestFace() {
        Check.is("the least", sizes(Sample.row(2), SLIP, 2), "2 1");
        Check.is("the widest", sizes(Sample.row(0, 0, 8, 12, 12), BOOK, 8), "96 12");
        Check.is("the least diamond", sizes(Sample.row(4), DIAMOND, 4), "2 2");
        Check.is("the greatest diamond", sizes(Sample.row(0, 0, 4, 12, 12), DIAMOND, 4), "24 24");
        LeafMatches down = Sample.stairs(8, 3);
        LeafMatches up = Sample.stairs(8, -3);
        Check.is("the highest, down", down.about(0, 1), 33);
        Check.is("the highest, up", up.about(0, 1), 33);
        LeafMatches inner = Sample.leaves(12, 12, 1, 1, 1, 1, 1, 1);
        Check.is("a diamond's piece 0", sizes(inner, DIAMOND, 4), "13 13");
        LeafMatches covered = Sample.leaves(1, 1, 1, 12, 12, 1, 1, 1);
        Check.is("a diamond's pieces 1 and 2 reach farthest", sizes(covered, DIAMOND, 4), "12 12");
        LeafMatches last = Sample.leaves(1, 1, 1, 1, 1, 1, 12, 12);
        Check.is("a diamond's piece 3 reaches farthest", sizes(last, DIAMOND, 4), "13 13");
    }

    // Promise 13.

    private static void balanceOfNoSuchFace() {
        LeafMatches x = Sample.row(4);
        x.match(SLIP, 2);
        Check.is("face 0 is there", x.balance(0), true);
        Check.refuses("balance: face", Check.INDEX, v -> x.balance(v), -1, 1, 8);
    }

    private static boolean balanced(int kind, int... widths) {
        LeafMatches x = new LeafMatches();
        for (int i = 0; i < widths.length; i++) {
            x.leaf(0, i, widths[i], 1);
        }
        x.match(kind, widths.length);
        return x.balance(0);
    }

    private static void balanceHalfAColumnOff() {
        Check.is("seam of 2", balanced(SLIP, 1, 1), true);
        Check.is("half off a seam, right wider", balanced(SLIP, 1, 2), false);
        Check.is("half off a seam, left wider", balanced(SLIP, 2, 1), false);
        Check.is("a whole column off", balanced(SLIP, 3, 1), false);
        Check.is("seam of 8", balanced(BOOK, 12, 12, 12, 12, 12, 12, 12, 12), true);
        Check.is("half off the seam of 8", balanced(BOOK, 12, 12, 12, 12, 12, 12, 12, 11), false);
        Check.is("middle of one column", balanced(REVERSED, 3, 1, 3), true);
        Check.is("middle of two columns", balanced(REVERSED, 3, 2, 3), true);
        Check.is("half off a middle", balanced(REVERSED, 3, 3, 4), false);
        Check.is("a whole column off a middle", balanced(REVERSED, 3, 4, 5), false);
        Check.is("middle of the fourth of 7", balanced(SLIP, 1, 2, 3, 5, 3, 2, 1), true);
        Check.is("middle of the second of 8", balanced(SLIP, 12, 12, 2, 2, 2, 2, 2, 2), true);
        Check.is("half off that", balanced(SLIP, 12, 12, 2, 2, 2, 2, 2, 1), false);
        Check.is("diamond's seam", balanced(DIAMOND, 1, 1, 1, 1), true);
        Check.is("diamond, half off its seam", balanced(DIAMOND, 2, 3, 2, 2), false);
        Check.is("diamond, the middle of its piece 3", balanced(DIAMOND, 1, 2, 1, 1), true);
        Check.is("diamond, half off that", balanced(DIAMOND, 1, 3, 1, 1), false);
    }

    // Promise 14.

    private static void numberOfNoSuchFaceOrPiece() {
        LeafMatches x = Sample.row(8);
        x.match(SLIP, 2);
        Check.is("piece 1 is there", x.number(0, 1, 0), (int) 'F');
        Check.refuses("number: face", Check.INDEX, v -> x.number(v, 0, 0), -1, 1, 8);
        Check.refuses("number: piece", Check.INDEX, v -> x.number(0, v, 0), -1, 2, 8);
        x.match(DIAMOND, 4);
        Check.is("a diamond's piece 3", x.number(1, 3, 2), (int) 'D');
        Check.refuses("number: piece of a diamond", Check.INDEX, v -> x.number(1, v, 0), -1, 4);
    }

    private static void numberIBelow0AndBehindIt() {
        LeafMatches x = Sample.row(2);
        x.match(BOOK, 2);
        Check.throwsJust("i -1", Check.ARGUMENT, () -> x.number(0, 0, -1));
        Check.throwsJust("i least", Check.ARGUMENT, () -> x.number(0, 0, LEAST));
        Check.is("the first", x.number(0, 0, 0), (int) 'F');
        Check.is("the last of F1B0", x.number(0, 0, 3), (int) '0');
        Check.is("behind F1B0", x.number(0, 0, 4), NONE);
        Check.is("the last of F1B1m", x.number(0, 1, 4), (int) 'm');
        Check.is("behind F1B1m", x.number(0, 1, 5), NONE);
        Check.is("i greatest", x.number(0, 0, GREATEST), NONE);
    }

    private static void numberOfTheLeastAndTheGreatest() {
        LeafMatches x = Sample.row(3, 969, 32, 1, 1);
        for (int i = 0; i < 8; i++) {
            x.match(i == 7 ? DIAMOND : i % 3, 4);
        }
        Check.is("the first face", Sample.written(x, 0, 0), "F1B969");
        Check.is("the last face", Sample.written(x, 7, 3), "F8D1000mt");
        Check.is("behind the longest", x.number(7, 3, 9), NONE);
        x.apart(0);
        Check.is("the last face's number is one less", Sample.written(x, 6, 3), "F7D1000mt");
        LeafMatches least = Sample.row(2);
        least.match(SLIP, 2);
        Check.is("the least number", Sample.written(least, 0, 0), "F1S0");
    }
}
