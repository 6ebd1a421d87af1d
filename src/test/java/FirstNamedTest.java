/** "of several exceptions the one named first is thrown": each call that could throw two of them. */
public final class FirstNamedTest {
    private static final int NONE = LeafMatches.NONE;
    private static final int SLIP = LeafMatches.SLIP;
    private static final int DIAMOND = LeafMatches.DIAMOND;
    private static final int LEAST = Integer.MIN_VALUE;
    private static final int GREATEST = Integer.MAX_VALUE;

    public static void main(String[] args) {
        leafStateBeforeArgument();
        pixelIndexBeforeArgument();
        reserveIndexBeforeArgument();
        reserveStateBeforeArgument();
        matchStateOfEightBeforeArgument();
        matchStateOfNoFlitchBeforeArgument();
        matchArgumentBeforeABrokenOrder();
        placeIndexBeforeArgument();
        aboutIndexBeforeArgument();
        sumIndexBeforeArgument();
        numberIndexBeforeArgument();
        wantStateBeforeArgument();
        plannedStateBeforeIndexAndArgument();
        plannedIndexBeforeArgument();
        Check.done();
    }

    private static void leafStateBeforeArgument() {
        LeafMatches full = Sample.row(32);
        Check.refuses("32 leaves, flitch", Check.STATE, v -> full.leaf(v, 50, 1, 1), -1, 4);
        Check.refuses("32 leaves, number", Check.STATE, v -> full.leaf(0, v, 1, 1), -1, 1001);
        Check.refuses("32 leaves, w", Check.STATE, v -> full.leaf(0, 50, v, 1), 0, 13);
        Check.refuses("32 leaves, h", Check.STATE, v -> full.leaf(0, 50, 1, v), 0, 13);
        Check.throwsJust("32 leaves, all wrong", Check.STATE, () -> full.leaf(LEAST, LEAST, GREATEST, LEAST));
        LeafMatches one = Sample.row(1);
        Check.refuses("number taken, w", Check.STATE, v -> one.leaf(0, 0, v, 1), 0, 13);
        Check.refuses("number taken, h", Check.STATE, v -> one.leaf(0, 0, 1, v), 0, 13);
        Check.refuses("number taken in another flitch, w", Check.ARGUMENT, v -> one.leaf(1, 0, v, 1), 0, 13);
    }

    private static void pixelIndexBeforeArgument() {
        LeafMatches x = Sample.row(1);
        Check.refuses("leaf 1, v", Check.INDEX, v -> x.pixel(1, 0, 0, v), -1, 256);
        Check.refuses("leaf -1, v", Check.INDEX, v -> x.pixel(-1, 0, 0, v), -1, 256);
        Check.refuses("x 1, v", Check.INDEX, v -> x.pixel(0, 1, 0, v), -1, 256);
        Check.refuses("x -1, v", Check.INDEX, v -> x.pixel(0, -1, 0, v), -1, 256);
        Check.refuses("y 1, v", Check.INDEX, v -> x.pixel(0, 0, 1, v), -1, 256);
        Check.refuses("y -1, v", Check.INDEX, v -> x.pixel(0, 0, -1, v), -1, 256);
        Check.refuses("all the same", Check.INDEX, v -> x.pixel(v, v, v, v), -1, 256);
    }

    private static void reserveIndexBeforeArgument() {
        LeafMatches x = Sample.row(1);
        Check.refuses("leaf 1, order", Check.INDEX, v -> x.reserve(1, v), -1, 1001);
        Check.refuses("leaf -1, order", Check.INDEX, v -> x.reserve(-1, v), -1, 1001);
        Check.refuses("both the same", Check.INDEX, v -> x.reserve(v, v), -1, 1001);
    }

    private static void reserveStateBeforeArgument() {
        LeafMatches x = Sample.row(2);
        x.match(SLIP, 2);
        Check.refuses("used, order", Check.STATE, v -> x.reserve(1, v), -1, 1001);
        x.apart(0);
        Check.refuses("not used any more, order", Check.ARGUMENT, v -> x.reserve(1, v), -1, 1001);
    }

    private static void matchStateOfEightBeforeArgument() {
        LeafMatches x = Sample.row(32);
        for (int i = 0; i < 8; i++) {
            x.match(SLIP, 2);
        }
        Check.refuses("8 faces, kind", Check.STATE, v -> x.match(v, 2), -1, 4);
        Check.refuses("8 faces, n", Check.STATE, v -> x.match(SLIP, v), -1, 0, 1, 9);
        Check.refuses("8 faces, n of a diamond", Check.STATE, v -> x.match(DIAMOND, v), 3, 5);
        Check.refuses("8 faces, both", Check.STATE, v -> x.match(v, v), -1, 9);
    }

    private static void matchStateOfNoFlitchBeforeArgument() {
        LeafMatches x = Sample.row(3);
        Check.refuses("no flitch of 4, kind", Check.STATE, v -> x.match(v, 4), -1, 4);
        Check.throwsJust("no flitch of 9", Check.STATE, () -> x.match(SLIP, 9));
        Check.throwsJust("no flitch of so many", Check.STATE, () -> x.match(SLIP, GREATEST));
        Check.throwsJust("no flitch of 5, diamond", Check.STATE, () -> x.match(DIAMOND, 5));
        Check.throwsJust("no flitch of 9, kind", Check.STATE, () -> x.match(4, 9));
        Check.refuses("a flitch of 3, kind", Check.ARGUMENT, v -> x.match(v, 3), -1, 4);
        Check.throwsJust("a flitch of 3, diamond", Check.ARGUMENT, () -> x.match(DIAMOND, 3));
        Check.throwsJust("a flitch of 1", Check.ARGUMENT, () -> x.match(SLIP, 1));
        LeafMatches used = Sample.row(2);
        used.match(SLIP, 2);
        Check.throwsJust("no flitch of 1, all are used", Check.STATE, () -> used.match(SLIP, 1));
        Check.throwsJust("each flitch has 0", Check.ARGUMENT, () -> used.match(SLIP, 0));
    }

    private static void matchArgumentBeforeABrokenOrder() {
        LeafMatches x = new LeafMatches();
        for (int i = 0; i < 10; i++) {
            x.leaf(0, 2 * i, 1, 1);
        }
        Check.refuses("broken, kind", Check.ARGUMENT, v -> x.match(v, 4), -1, 4);
        Check.throwsJust("broken, n 1", Check.ARGUMENT, () -> x.match(SLIP, 1));
        Check.throwsJust("broken, n 9", Check.ARGUMENT, () -> x.match(SLIP, 9));
        Check.throwsJust("broken, diamond of 3", Check.ARGUMENT, () -> x.match(DIAMOND, 3));
        Check.is("broken", x.match(DIAMOND, 4), NONE);
    }

    private static void placeIndexBeforeArgument() {
        LeafMatches x = Sample.row(2);
        x.match(SLIP, 2);
        Check.refuses("face 1, what", Check.INDEX, v -> x.place(1, 0, v), -1, 5);
        Check.refuses("face -1, what", Check.INDEX, v -> x.place(-1, 0, v), -1, 5);
        Check.refuses("piece 2, what", Check.INDEX, v -> x.place(0, 2, v), -1, 5);
        Check.refuses("piece -1, what", Check.INDEX, v -> x.place(0, -1, v), -1, 5);
        Check.refuses("all the same", Check.INDEX, v -> x.place(v, v, v), -1, 5);
    }

    private static void aboutIndexBeforeArgument() {
        LeafMatches x = Sample.row(2);
        x.match(SLIP, 2);
        Check.refuses("face 1, what", Check.INDEX, v -> x.about(1, v), -1, 4);
        Check.refuses("face -1, what", Check.INDEX, v -> x.about(-1, v), -1, 4);
    }

    private static void sumIndexBeforeArgument() {
        LeafMatches x = Sample.row(2);
        x.match(SLIP, 2);
        Check.refuses("face 1, shift", Check.INDEX, v -> x.sum(1, 0, v), -4, 4);
        Check.refuses("face -1, shift", Check.INDEX, v -> x.sum(-1, 0, v), -4, 4);
        Check.refuses("seam 1, shift", Check.INDEX, v -> x.sum(0, 1, v), -4, 4);
        Check.refuses("seam -1, shift", Check.INDEX, v -> x.sum(0, -1, v), -4, 4);
        LeafMatches diamond = Sample.row(4);
        diamond.match(DIAMOND, 4);
        Check.refuses("seam 2 of a diamond, shift", Check.INDEX, v -> diamond.sum(0, 2, v), -4, 4);
    }

    private static void numberIndexBeforeArgument() {
        LeafMatches x = Sample.row(2);
        x.match(SLIP, 2);
        Check.throwsJust("face 1, i -1", Check.INDEX, () -> x.number(1, 0, -1));
        Check.throwsJust("face -1, i least", Check.INDEX, () -> x.number(-1, 0, LEAST));
        Check.throwsJust("piece 2, i -1", Check.INDEX, () -> x.number(0, 2, -1));
        Check.throwsJust("piece -1, i least", Check.INDEX, () -> x.number(0, -1, LEAST));
        Check.throwsJust("piece 2, i behind it", Check.INDEX, () -> x.number(0, 2, GREATEST));
    }

    private static void wantStateBeforeArgument() {
        LeafMatches x = new LeafMatches();
        for (int i = 0; i < 8; i++) {
            x.want(1);
        }
        Check.refuses("8 wanted, w", Check.STATE, v -> x.want(v), -1, 0, 101);
        x.clear();
        Check.refuses("none wanted, w", Check.ARGUMENT, v -> x.want(v), -1, 0, 101);
    }

    private static void plannedStateBeforeIndexAndArgument() {
        LeafMatches x = Sample.row(1);
        x.want(1);
        Check.refuses("no plan, k", Check.STATE, v -> x.planned(v, 0), -1, 1, 8);
        Check.refuses("no plan, what", Check.STATE, v -> x.planned(0, v), -1, 2);
        Check.refuses("no plan, both", Check.STATE, v -> x.planned(v, v), -1, 8);
        x.faces(0);
        x.clear();
        Check.refuses("no plan since cleared", Check.STATE, v -> x.planned(v, v), -1, 0, 8);
    }

    private static void plannedIndexBeforeArgument() {
        LeafMatches x = Sample.row(1);
        x.want(1);
        x.faces(0);
        Check.refuses("k 1, what", Check.INDEX, v -> x.planned(1, v), -1, 2);
        Check.refuses("k -1, what", Check.INDEX, v -> x.planned(-1, v), -1, 2);
        Check.refuses("both the same", Check.INDEX, v -> x.planned(v, v), -1, 2);
    }
}
