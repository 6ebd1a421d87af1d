/**
 * The boundary cases of promises 5 and 6, and of faces and pieces in "Terms": a method for each
 * sentence. What a face answers has its own tests, PieceBoundsTest and SeamBoundsTest.
 */
public final class FaceBoundsTest {
    private static final int NONE = LeafMatches.NONE;
    private static final int BOOK = LeafMatches.BOOK;
    private static final int SLIP = LeafMatches.SLIP;
    private static final int REVERSED = LeafMatches.REVERSED;
    private static final int DIAMOND = LeafMatches.DIAMOND;
    private static final int LEAST = Integer.MIN_VALUE;
    private static final int GREATEST = Integer.MAX_VALUE;

    public static void main(String[] args) {
        kindIsOneOfFour();
        nIs2To8();
        nOfADiamondIs4();
        nThatNoFlitchHas();
        aFlitchHasJustNLeaves();
        leavesOfSeveralFlitchesMakeNoFace();
        theLeastFlitchThatHasThem();
        usedAndReservedOnesAreNotCounted();
        brokenAtItsFirstOrLastStep();
        aGapBehindTheLastOneIsNoBreak();
        aGapOfALeafThatIsReservedOrUsed();
        theNumbersAtTheirEnds();
        aBrokenOrderMakesNoFace();
        brokenWhereAnotherFlitchIsNot();
        thereAre8Faces();
        aNinthIsRefusedThoughTheOrderIsBroken();
        thereIsRoomAgainAfterApart();
        apartOfNoSuchFace();
        apartOfTheFirstTheMiddleAndTheLast();
        apartOfTheOnlyOne();
        apartGivesTheLeavesBack();
        Check.done();
    }

    // Promise 5: "another kind, or n is not 2 .. 8 (4 for a diamond)".

    private static void kindIsOneOfFour() {
        LeafMatches x = Sample.row(32);
        Check.refuses("match: kind", Check.ARGUMENT, v -> x.match(v, 4), -1, 4, 5, 256);
        for (int kind = 0; kind <= 3; kind++) {
            Check.is("kind " + kind, x.match(kind, 4), kind);
            Check.is("it is told", x.about(kind, 3), kind);
        }
    }

    private static void nIs2To8() {
        int[] kinds = {BOOK, SLIP, REVERSED};
        for (int kind : kinds) {
            LeafMatches x = Sample.row(32);
            int[] wrong = {LEAST, -8, -2, -1, 0, 1, 9, 10, 32};
            for (int n : wrong) {
                Check.throwsJust("kind " + kind + " of " + n, Check.ARGUMENT, () -> x.match(kind, n));
            }
            for (int n = 2; n <= 8; n++) {
                Check.is("kind " + kind + " of " + n, x.match(kind, n), 0);
                Check.is("so many pieces", x.about(0, 2), n);
                x.apart(0);
            }
        }
    }

    private static void nOfADiamondIs4() {
        LeafMatches x = Sample.row(32);
        int[] wrong = {LEAST, -4, 0, 1, 2, 3, 5, 6, 7, 8, 9, 32};
        for (int n : wrong) {
            Check.throwsJust("diamond of " + n, Check.ARGUMENT, () -> x.match(DIAMOND, n));
        }
        Check.is("diamond of 4", x.match(DIAMOND, 4), 0);
        Check.is("four pieces", x.about(0, 2), 4);
    }

    /** "no such flitch" is named before a wrong n: no flitch has so many leaves. */
    private static void nThatNoFlitchHas() {
        LeafMatches x = Sample.row(32);
        Check.throwsJust("33", Check.STATE, () -> x.match(SLIP, 33));
        Check.throwsJust("greatest", Check.STATE, () -> x.match(SLIP, GREATEST));
        LeafMatches eight = Sample.row(8);
        Check.throwsJust("9 of 8", Check.STATE, () -> eight.match(SLIP, 9));
        Check.is("8 of 8", eight.match(SLIP, 8), 0);
        LeafMatches none = new LeafMatches();
        Check.throwsJust("1 of none", Check.STATE, () -> none.match(SLIP, 1));
        Check.throwsJust("0 of none", Check.ARGUMENT, () -> none.match(SLIP, 0));
        Check.throwsJust("least of none", Check.ARGUMENT, () -> none.match(SLIP, LEAST));
    }

    // Promise 5: "A FACE of the least flitch that has n leaves neither USED nor RESERVED".

    private static void aFlitchHasJustNLeaves() {
        for (int n = 2; n <= 8; n++) {
            for (int flitch = 0; flitch < 4; flitch++) {
                int all = n;
                LeafMatches x = Sample.row(flitch, 3, n - 1, 1, 1);
                Check.throwsJust("one less than " + n, Check.STATE, () -> x.match(SLIP, all));
                x.leaf(flitch, 2, 1, 1);
                Check.is("just " + n + " of flitch " + flitch, x.match(SLIP, n), 0);
                Check.is("the first one", x.place(0, 0, 0), n - 1);
                Check.throwsJust("none is left", Check.STATE, () -> x.match(SLIP, 2));
            }
        }
    }

    private static void leavesOfSeveralFlitchesMakeNoFace() {
        LeafMatches x = new LeafMatches();
        for (int flitch = 0; flitch < 4; flitch++) {
            x.leaf(flitch, flitch, 1, 1);
        }
        Check.throwsJust("one of each", Check.STATE, () -> x.match(SLIP, 2));
        x.leaf(3, 4, 1, 1);
        Check.is("two of the last flitch", x.match(SLIP, 2), 0);
        Check.is("they are", Sample.places(x, 0, 0), "3 4");
    }

    private static void theLeastFlitchThatHasThem() {
        LeafMatches x = new LeafMatches();
        for (int flitch = 3; flitch >= 0; flitch--) {
            x.leaf(flitch, 0, 1, 1);
            x.leaf(flitch, 1, 1, 1);
        }
        x.leaf(2, 2, 1, 1);
        Check.is("three are of flitch 2", x.match(SLIP, 3), 0);
        Check.is("they are", Sample.places(x, 0, 0), "2 3 8");
        String[] due = {"6 7", "4 5", "0 1"};
        for (int i = 0; i < 3; i++) {
            Check.is("the next one", x.match(SLIP, 2), i + 1);
            Check.is("the least flitch left", Sample.places(x, i + 1, 0), due[i]);
        }
        Check.throwsJust("no flitch is left", Check.STATE, () -> x.match(SLIP, 2));
    }

    private static void usedAndReservedOnesAreNotCounted() {
        LeafMatches x = Sample.row(3);
        x.leaf(1, 0, 1, 1);
        x.leaf(1, 1, 1, 1);
        x.reserve(0, 1);
        x.reserve(2, 1000);
        Check.is("flitch 0 has one left", x.match(SLIP, 2), 0);
        Check.is("so it is flitch 1", Sample.places(x, 0, 0), "3 4");
        Check.throwsJust("flitch 1 has none left", Check.STATE, () -> x.match(SLIP, 2));
        x.reserve(2, 0);
        Check.is("flitch 0 has two again", x.match(SLIP, 2), 1);
        Check.is("they are", Sample.places(x, 1, 0), "1 2");
    }

    // "their numbers must go up by one each, else the order is BROKEN and there is no face".

    private static void brokenAtItsFirstOrLastStep() {
        for (int n = 2; n <= 8; n++) {
            for (int gap = 1; gap < n; gap++) {
                LeafMatches x = new LeafMatches();
                for (int i = 0; i < n; i++) {
                    x.leaf(0, i < gap ? i : i + 1, 1, 1);
                }
                Check.is("a gap of one before " + gap + " of " + n, x.match(SLIP, n), NONE);
                x.leaf(0, gap, 1, 1);
                Check.is("no gap any more", x.match(SLIP, n), 0);
            }
        }
        LeafMatches far = new LeafMatches();
        far.leaf(0, 0, 1, 1);
        far.leaf(0, 1000, 1, 1);
        Check.is("the widest gap", far.match(BOOK, 2), NONE);
    }

    private static void aGapBehindTheLastOneIsNoBreak() {
        for (int n = 2; n <= 8; n++) {
            LeafMatches x = Sample.row(n);
            x.leaf(0, n + 1, 1, 1);
            Check.is("a gap behind " + n, x.match(SLIP, n), 0);
            if (n < 8) {
                x.apart(0);
                Check.is("a gap within one more", x.match(SLIP, n + 1), NONE);
            }
        }
    }

    private static void aGapOfALeafThatIsReservedOrUsed() {
        LeafMatches x = Sample.row(6);
        x.reserve(1, 1);
        Check.is("a reserved one between", x.match(SLIP, 2), NONE);
        x.reserve(0, 1);
        Check.is("a reserved one before", x.match(SLIP, 2), 0);
        Check.is("the ones behind it", Sample.places(x, 0, 0), "2 3");
        x.reserve(0, 0);
        x.reserve(1, 0);
        Check.is("used ones between", x.match(SLIP, 3), NONE);
        Check.is("used ones behind", x.match(SLIP, 2), 1);
        Check.is("the ones before them", Sample.places(x, 1, 0), "0 1");
        Check.is("used ones before", x.match(SLIP, 2), 2);
        Check.is("the last ones", Sample.places(x, 2, 0), "4 5");
    }

    private static void theNumbersAtTheirEnds() {
        LeafMatches least = Sample.row(2, 0, 8, 1, 1);
        Check.is("0 to 7", least.match(SLIP, 8), 0);
        LeafMatches greatest = Sample.row(2, 993, 8, 1, 1);
        Check.is("993 to 1000", greatest.match(SLIP, 8), 0);
        LeafMatches ends = new LeafMatches();
        ends.leaf(0, 1000, 1, 1);
        ends.leaf(0, 0, 1, 1);
        Check.is("0 does not come behind 1000", ends.match(SLIP, 2), NONE);
    }

    private static void aBrokenOrderMakesNoFace() {
        LeafMatches x = new LeafMatches();
        x.leaf(0, 0, 1, 1);
        x.leaf(0, 2, 1, 1);
        Check.is("broken", x.match(SLIP, 2), NONE);
        Check.is("broken again", x.match(SLIP, 2), NONE);
        Check.throwsJust("no face", Check.INDEX, () -> x.about(0, 0));
        Check.is("no leaf is used", "" + x.reserve(0, 0) + x.reserve(1, 0), "falsefalse");
        x.leaf(0, 1, 1, 1);
        Check.is("the first face", x.match(SLIP, 3), 0);
    }

    private static void brokenWhereAnotherFlitchIsNot() {
        LeafMatches x = new LeafMatches();
        x.leaf(1, 0, 1, 1);
        x.leaf(1, 2, 1, 1);
        x.leaf(2, 0, 1, 1);
        x.leaf(2, 1, 1, 1);
        Check.is("NONE if the order is broken there", x.match(SLIP, 2), NONE);
        x.reserve(0, 1);
        Check.is("the other one when the least has one left", x.match(SLIP, 2), 0);
        Check.is("they are", Sample.places(x, 0, 0), "2 3");
    }

    // "there are 8 faces".

    private static LeafMatches withEight() {
        LeafMatches x = Sample.row(32);
        for (int i = 0; i < 8; i++) {
            x.match(i % 3, 2 + i % 2);
        }
        return x;
    }

    private static void thereAre8Faces() {
        LeafMatches x = Sample.row(32);
        for (int i = 0; i < 8; i++) {
            Check.is("face " + i, x.match(SLIP, 2), i);
            Check.is("its first leaf", x.place(i, 0, 0), 2 * i);
        }
        Check.throwsJust("a ninth", Check.STATE, () -> x.match(SLIP, 2));
        Check.throwsJust("a ninth, diamond", Check.STATE, () -> x.match(DIAMOND, 4));
        Check.is("its leaves are not used", x.reserve(16, 0), false);
        Check.throwsJust("no face 8", Check.INDEX, () -> x.about(8, 0));
        Check.is("face 7", x.about(7, 2), 2);
    }

    private static void aNinthIsRefusedThoughTheOrderIsBroken() {
        LeafMatches x = Sample.row(18);
        for (int i = 0; i < 8; i++) {
            x.match(SLIP, 2);
        }
        x.reserve(17, 1);
        x.leaf(0, 18, 1, 1);
        Check.throwsJust("8 faces, a gap", Check.STATE, () -> x.match(SLIP, 2));
        x.apart(7);
        x.reserve(14, 1);
        x.reserve(15, 1);
        Check.is("7 faces, a gap", x.match(SLIP, 2), NONE);
    }

    private static void thereIsRoomAgainAfterApart() {
        LeafMatches x = withEight();
        Check.is("seven", x.apart(3), 7);
        Check.is("the eighth again", x.match(BOOK, 2), 7);
        Check.throwsJust("a ninth again", Check.STATE, () -> x.match(BOOK, 2));
    }

    // Promise 6.

    private static void apartOfNoSuchFace() {
        LeafMatches none = new LeafMatches();
        Check.refuses("apart: no face yet", Check.INDEX, v -> none.apart(v), -1, 0, 1);
        LeafMatches x = Sample.row(6);
        x.match(SLIP, 2);
        x.match(SLIP, 2);
        Check.refuses("apart: of two", Check.INDEX, v -> x.apart(v), -1, 2, 3, 8);
        LeafMatches eight = withEight();
        Check.refuses("apart: of eight", Check.INDEX, v -> eight.apart(v), -1, 8, 9);
        Check.is("the refused left all eight", eight.apart(7), 7);
    }

    private static String kinds(LeafMatches x, int count) {
        StringBuilder text = new StringBuilder();
        for (int i = 0; i < count; i++) {
            text.append(x.about(i, 3)).append(x.about(i, 2)).append(x.place(i, 0, 0)).append(' ');
        }
        return text.toString().trim();
    }

    private static void apartOfTheFirstTheMiddleAndTheLast() {
        LeafMatches x = withEight();
        Check.is("eight", kinds(x, 8), "020 132 225 037 1210 2312 0215 1317");
        Check.is("the last", x.apart(7), 7);
        Check.is("seven", kinds(x, 7), "020 132 225 037 1210 2312 0215");
        Check.throwsJust("no eighth", Check.INDEX, () -> x.about(7, 0));
        Check.is("the first", x.apart(0), 6);
        Check.is("six", kinds(x, 6), "132 225 037 1210 2312 0215");
        Check.throwsJust("no seventh", Check.INDEX, () -> x.about(6, 0));
        Check.is("one between", x.apart(2), 5);
        Check.is("five", kinds(x, 5), "132 225 1210 2312 0215");
        for (int left = 4; left >= 0; left--) {
            Check.is("all of them", x.apart(0), left);
        }
        Check.throwsJust("none is left", Check.INDEX, () -> x.apart(0));
    }

    private static void apartOfTheOnlyOne() {
        LeafMatches x = Sample.row(2);
        x.match(SLIP, 2);
        Check.is("none is left", x.apart(0), 0);
        Check.throwsJust("apart twice", Check.INDEX, () -> x.apart(0));
        Check.is("the first one again", x.match(BOOK, 2), 0);
        Check.is("of another kind", x.about(0, 3), BOOK);
    }

    private static void apartGivesTheLeavesBack() {
        LeafMatches x = Sample.row(8);
        x.match(SLIP, 8);
        Check.throwsJust("none is free", Check.STATE, () -> x.match(SLIP, 2));
        x.apart(0);
        Check.is("all eight are", x.match(SLIP, 8), 0);
        x.apart(0);
        x.match(DIAMOND, 4);
        x.match(DIAMOND, 4);
        x.apart(0);
        Check.is("only those of that face", x.match(SLIP, 4), 1);
        Check.is("they are", Sample.places(x, 1, 0), "0 1 2 3");
        Check.throwsJust("the other's are used", Check.STATE, () -> x.reserve(4, 0));
    }
}
