/** The boundary cases of promises 10, 11 and 12, and of seams in "Terms". */
public final class SeamBoundsTest {
    private static final int BOOK = LeafMatches.BOOK;
    private static final int SLIP = LeafMatches.SLIP;
    private static final int REVERSED = LeafMatches.REVERSED;
    private static final int DIAMOND = LeafMatches.DIAMOND;

    public static void main(String[] args) {
        noSuchFace();
        seamsOfEachNumberOfPieces();
        seamsOfADiamond();
        shiftsAtTheirEnds();
        aShiftFartherThan3IsNotLookedFor();
        sumShiftIsMinus3To3();
        theLeastAndTheGreatestSum();
        rowsThatMeetNone();
        aLeftOneOfOneRow();
        aRightOneOfOneRow();
        trueIsASumOfJust0();
        aDiamondsShiftIsNotUsed();
        Check.done();
    }

    private static void noSuchFace() {
        LeafMatches x = Sample.row(4);
        x.match(SLIP, 2);
        Check.is("face 0 has a seam", x.seam(0, 0) + " " + x.sum(0, 0, 0) + " " + x.mirrored(0, 0), "0 0 true");
        Check.refuses("seam: face", Check.INDEX, v -> x.seam(v, 0), -1, 1, 8);
        Check.refuses("sum: face", Check.INDEX, v -> x.sum(v, 0, 0), -1, 1, 8);
        Check.refuses("mirrored: face", Check.INDEX, v -> x.mirrored(v, 0), -1, 1, 8);
    }

    /** Only the last seam is not true, so that it is told from the one before it. */
    private static void seamsOfEachNumberOfPieces() {
        int[] kinds = {BOOK, SLIP, REVERSED};
        for (int kind : kinds) {
            for (int n = 2; n <= 8; n++) {
                LeafMatches x = Sample.row(n);
                x.pixel(n - 1, 0, 0, 9);
                x.match(kind, n);
                String what = " of kind " + kind + " of " + n;
                for (int k = 0; k < n - 1; k++) {
                    Check.is("seam " + k + what, x.seam(0, k), 0);
                    Check.is("sum " + k + what, x.sum(0, k, 0), k == n - 2 ? 9L : 0L);
                    Check.is("mirrored " + k + what, x.mirrored(0, k), k != n - 2);
                }
                Check.refuses("seam" + what, Check.INDEX, v -> x.seam(0, v), -1, n - 1, n, 8);
                Check.refuses("sum" + what, Check.INDEX, v -> x.sum(0, v, 0), -1, n - 1, n, 8);
                Check.refuses("mirrored" + what, Check.INDEX, v -> x.mirrored(0, v), -1, n - 1, n, 8);
            }
        }
    }

    /** "of a diamond seam 0 between 0 and 1, 1 between 2 and 3" */
    private static void seamsOfADiamond() {
        LeafMatches x = Sample.row(4);
        for (int i = 0; i < 4; i++) {
            x.pixel(i, 0, 0, i * i * 10);
        }
        x.match(DIAMOND, 4);
        Check.is("0 and 1", x.sum(0, 0, 0), 10L);
        Check.is("2 and 3", x.sum(0, 1, 0), 50L);
        Check.refuses("seam of a diamond", Check.INDEX, v -> x.seam(0, v), -1, 2, 3, 4);
        Check.refuses("sum of a diamond", Check.INDEX, v -> x.sum(0, v, 0), -1, 2, 3, 4);
        Check.refuses("mirrored of a diamond", Check.INDEX, v -> x.mirrored(0, v), -1, 2, 3, 4);
    }

    private static void shiftsAtTheirEnds() {
        for (int shift = -3; shift <= 3; shift++) {
            LeafMatches x = Sample.stairs(2, shift);
            Check.is("shift " + shift, x.seam(0, 0), shift);
            Check.is("its sum", x.sum(0, 0, shift), 255L * Math.abs(shift));
        }
    }

    /** The figures would go on at 4 and -4. */
    private static void aShiftFartherThan3IsNotLookedFor() {
        LeafMatches down = Sample.leaves(1, 5, 1, 1);
        Sample.column(down, 0, 0, 0, 0, 0, 0, 255);
        Sample.column(down, 1, 0, 255);
        down.match(SLIP, 2);
        Check.is("row 4 of the left one is too far", down.seam(0, 0) + " " + down.sum(0, 0, 3), "0 " + 5 * 255);
        down.pixel(0, 0, 3, 255);
        Check.is("its row 3 is not", down.seam(0, 0) + " " + down.sum(0, 0, 3), "3 " + 4 * 255);
        LeafMatches up = Sample.leaves(1, 1, 1, 12);
        Sample.column(up, 0, 0, 200);
        Sample.column(up, 1, 0, 0, 0, 0, 0, 200);
        up.match(SLIP, 2);
        Check.is("row 4 of the right one is too far", up.seam(0, 0) + " " + up.sum(0, 0, -3), "0 200");
        up.pixel(1, 0, 3, 200);
        Check.is("its row 3 is not", up.seam(0, 0) + " " + up.sum(0, 0, -3), "-3 0");
    }

    private static void sumShiftIsMinus3To3() {
        LeafMatches x = Sample.leaves(1, 4, 1, 4);
        Sample.column(x, 0, 0, 1, 2, 3, 4);
        x.match(SLIP, 2);
        Check.is("-3", x.sum(0, 0, -3), 255L * 3 + 1);
        Check.is("3", x.sum(0, 0, 3), 255L * 3 + 4);
        Check.refuses("sum: shift", Check.ARGUMENT, v -> x.sum(0, 0, v), -4, 4, -12, 12);
    }

    private static void theLeastAndTheGreatestSum() {
        LeafMatches x = Sample.leaves(12, 12, 12, 12);
        x.match(BOOK, 2);
        Check.is("the least", x.sum(0, 0, 0), 0L);
        for (int y = 0; y < 12; y++) {
            x.pixel(0, 11, y, 255);
        }
        for (int shift = -3; shift <= 3; shift++) {
            Check.is("the greatest at " + shift, x.sum(0, 0, shift), 12L * 255);
        }
        Check.is("all alike: 0", x.seam(0, 0), 0);
    }

    /** "each row of the left one that meets none counts 255", not those of the right one. */
    private static void rowsThatMeetNone() {
        LeafMatches left = Sample.leaves(1, 12, 1, 1);
        left.match(SLIP, 2);
        Check.is("11 of 12 meet none", left.sum(0, 0, 0), 11L * 255);
        Check.is("above the left one's top", left.sum(0, 0, -1), 12L * 255);
        Check.is("at its fourth row", left.sum(0, 0, 3), 11L * 255);
        Check.is("shift", left.seam(0, 0), 0);
        LeafMatches right = Sample.leaves(1, 1, 1, 12);
        right.match(SLIP, 2);
        Check.is("the right one's rows", right.sum(0, 0, 0), 0L);
        Check.is("the right one begins above", right.sum(0, 0, -3), 0L);
        Check.is("the right one begins below", right.sum(0, 0, 1), 255L);
    }

    private static void aLeftOneOfOneRow() {
        LeafMatches x = Sample.leaves(1, 1, 1, 3);
        Sample.column(x, 0, 0, 50);
        Sample.column(x, 1, 0, 10, 20, 30);
        x.match(SLIP, 2);
        long[] due = {255, 20, 30, 40, 255, 255, 255};
        for (int shift = -3; shift <= 3; shift++) {
            Check.is("one row at " + shift, x.sum(0, 0, shift), due[shift + 3]);
        }
        Check.is("the last row of the right one", x.seam(0, 0), -2);
    }

    private static void aRightOneOfOneRow() {
        LeafMatches x = Sample.leaves(1, 3, 1, 1);
        Sample.column(x, 0, 0, 10, 20, 30);
        Sample.column(x, 1, 0, 50);
        x.match(SLIP, 2);
        long[] due = {765, 765, 765, 550, 540, 530, 765};
        for (int shift = -3; shift <= 3; shift++) {
            Check.is("to one row at " + shift, x.sum(0, 0, shift), due[shift + 3]);
        }
        Check.is("the last row of the left one", x.seam(0, 0), 2);
    }

    private static void trueIsASumOfJust0() {
        LeafMatches x = Sample.leaves(2, 2, 2, 2);
        x.match(BOOK, 2);
        Check.is("0", x.mirrored(0, 0), true);
        x.pixel(1, 1, 1, 1);
        Check.is("1 at the last row", x.sum(0, 0, 0) + " " + x.mirrored(0, 0), "1 false");
        x.pixel(0, 1, 1, 2);
        Check.is("-1 is no less", x.sum(0, 0, 0) + " " + x.mirrored(0, 0), "1 false");
        x.pixel(0, 1, 0, 1);
        x.pixel(1, 1, 0, 2);
        Check.is("1 and -1 are not 0", x.sum(0, 0, 0) + " " + x.mirrored(0, 0), "2 false");
        x.pixel(1, 1, 0, 1);
        x.pixel(1, 1, 1, 2);
        Check.is("0 again", x.mirrored(0, 0), true);
    }

    /** "Of a diamond it is told, but not used." */
    private static void aDiamondsShiftIsNotUsed() {
        LeafMatches x = Sample.row(0, 0, 4, 1, 4);
        Sample.column(x, 0, 0, 0, 255, 0, 255);
        Sample.column(x, 1, 0, 255, 0, 255, 0);
        Sample.column(x, 2, 0, 255, 0, 0, 0);
        Sample.column(x, 3, 0, 0, 255, 0, 0);
        x.match(DIAMOND, 4);
        Check.is("told", x.seam(0, 0) + " " + x.seam(0, 1), "-1 1");
        Check.is("not used", Sample.places(x, 0, 4), "0 0 4 4");
        Check.is("nor for the size", x.about(0, 1), 8);
        Check.is("nor for the greys", x.at(0, 1, 0) + " " + x.at(0, 1, 3), "255 0");
    }
}
