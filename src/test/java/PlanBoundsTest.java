/** The boundary cases of promises 15 to 18, and of plans in "Terms": a method for each sentence. */
public final class PlanBoundsTest {
    private static final int NONE = LeafMatches.NONE;
    private static final int SLIP = LeafMatches.SLIP;

    public static void main(String[] args) {
        wantIs1To100();
        thereAre8Wanted();
        aRefusedWantIsNotCounted();
        clearOfNoneAndOfEight();
        thereIsRoomAgainAfterClear();
        facesOfNoSuchFlitch();
        noneIsWanted();
        noLeafIsThere();
        justSoWideOneLessAndOneMore();
        theWidestWanted();
        theLongestRow();
        eightWantedFromAsManyLeaves();
        theGreatestLoss();
        noTwoFacesHaveALeafInCommon();
        aGapWithinARow();
        aReservedOrUsedLeafWithinARow();
        leavesThatNoFaceGetsAreNoLoss();
        theNumbersAtTheirEnds();
        aFlitchTakesNoLeafOfAnother();
        plannedBeforeAnyFaces();
        plannedOfNoSuchFaceWanted();
        plannedWhatIs0Or1();
        plannedWhenNoneIsWanted();
        plannedOfSeveralPlans();
        plannedAfterNoWay();
        plannedSinceSomethingWasTold();
        plannedSinceGreysWereTold();
        plannedSinceARefusedCall();
        plannedOfLeaf31();
        theLastOf512Calls();
        Check.done();
    }

    // Promise 15.

    private static void wantIs1To100() {
        LeafMatches x = new LeafMatches();
        Check.refuses("want: w", Check.ARGUMENT, v -> x.want(v), 0, -1, 101, 1 << 16, -100);
        Check.is("1", x.want(1), 1);
        Check.is("100", x.want(100), 2);
    }

    private static void thereAre8Wanted() {
        LeafMatches x = new LeafMatches();
        for (int i = 1; i <= 8; i++) {
            Check.is("wanted " + i, x.want(50), i);
        }
        Check.throwsJust("a ninth", Check.STATE, () -> x.want(50));
        Check.throwsJust("a ninth, the least", Check.STATE, () -> x.want(1));
        Check.throwsJust("a ninth, the widest", Check.STATE, () -> x.want(100));
        Check.is("eight were", x.clear(), 8);
    }

    private static void aRefusedWantIsNotCounted() {
        LeafMatches x = Sample.row(1);
        Check.is("the first", x.want(1), 1);
        Check.throwsJust("0", Check.ARGUMENT, () -> x.want(0));
        Check.throwsJust("101", Check.ARGUMENT, () -> x.want(101));
        Check.is("just the first is planned", x.faces(0), 0);
        Check.is("the second", x.want(1), 2);
    }

    // Promise 16.

    private static void clearOfNoneAndOfEight() {
        LeafMatches x = new LeafMatches();
        Check.is("none were", x.clear(), 0);
        for (int count = 1; count <= 8; count++) {
            for (int i = 0; i < count; i++) {
                x.want(1);
            }
            Check.is("so many were", x.clear(), count);
            Check.is("none are", x.clear(), 0);
        }
    }

    private static void thereIsRoomAgainAfterClear() {
        LeafMatches x = Sample.row(8);
        for (int i = 0; i < 8; i++) {
            x.want(100);
        }
        x.clear();
        Check.is("the first again", x.want(1), 1);
        Check.is("only that one is wanted", x.faces(0), 0);
        for (int i = 2; i <= 8; i++) {
            Check.is("again " + i, x.want(1), i);
        }
        Check.throwsJust("a ninth again", Check.STATE, () -> x.want(1));
        Check.is("eight leaves for eight", x.faces(0), 0);
    }

    // Promise 17 and "A PLAN".

    private static void facesOfNoSuchFlitch() {
        LeafMatches x = Sample.row(3, 0, 1, 1, 1);
        x.leaf(0, 0, 1, 1);
        x.want(1);
        Check.refuses("faces: flitch", Check.ARGUMENT, v -> x.faces(v), -1, 4, 5, 256);
        Check.is("flitch 0", x.faces(0), 0);
        Check.is("flitch 3", x.faces(3), 0);
    }

    private static void noneIsWanted() {
        LeafMatches x = new LeafMatches();
        Check.is("no leaf", x.faces(0), 0);
        x.leaf(0, 0, 12, 12);
        Check.is("one leaf", x.faces(0), 0);
        x.want(100);
        x.clear();
        Check.is("cleared", x.faces(0), 0);
    }

    private static void noLeafIsThere() {
        LeafMatches x = new LeafMatches();
        x.want(1);
        for (int flitch = 0; flitch < 4; flitch++) {
            Check.is("no leaf of " + flitch, x.faces(flitch), NONE);
        }
        x.leaf(2, 0, 1, 1);
        Check.is("one of flitch 2", x.faces(2), 0);
        Check.is("none of flitch 1", x.faces(1), NONE);
        x.reserve(0, 1);
        Check.is("it is reserved", x.faces(2), NONE);
    }

    /** "whose widths together are at least what is wanted; LOSS is the sum of what they are more" */
    private static void justSoWideOneLessAndOneMore() {
        Check.is("one leaf, one less", lossOf(7, 6), 1);
        Check.is("one leaf, just so wide", lossOf(7, 7), 0);
        Check.is("one leaf, one more", lossOf(7, 8), 6);
        Check.is("two leaves, just so wide", lossOf(7, 14), 0);
        Check.is("two leaves, one more", lossOf(7, 15), 6);
        Check.is("three leaves, just so wide", lossOf(7, 21), 0);
        Check.is("three leaves, one more", lossOf(7, 22), NONE);
    }

    private static int lossOf(int width, int wanted) {
        LeafMatches x = Sample.row(0, 0, 3, width, 1);
        x.want(wanted);
        return x.faces(0);
    }

    private static void theWidestWanted() {
        LeafMatches eight = Sample.row(0, 0, 8, 12, 1);
        eight.want(100);
        Check.is("96 for 100", eight.faces(0), NONE);
        eight.leaf(0, 8, 4, 1);
        Check.is("100 for 100", eight.faces(0), 0);
        Check.is("nine leaves", Sample.plan(eight, 1), "0+9");
        LeafMatches nine = Sample.row(0, 0, 9, 12, 1);
        nine.want(100);
        Check.is("108 for 100", nine.faces(0), 8);
    }

    private static void theLongestRow() {
        LeafMatches x = Sample.row(32);
        x.want(32);
        Check.is("all 32", x.faces(0), 0);
        Check.is("from the first", Sample.plan(x, 1), "0+32");
        x.clear();
        x.want(33);
        Check.is("33 of 32", x.faces(0), NONE);
    }

    private static void eightWantedFromAsManyLeaves() {
        LeafMatches x = Sample.row(0, 0, 7, 3, 1);
        for (int i = 0; i < 8; i++) {
            x.want(3);
        }
        Check.is("seven leaves for eight", x.faces(0), NONE);
        x.leaf(0, 100, 3, 1);
        Check.is("eight leaves for eight", x.faces(0), 0);
        Check.is("each one gets one", Sample.plan(x, 8), "0+1 1+1 2+1 3+1 4+1 5+1 6+1 7+1");
        x.leaf(0, 101, 3, 1);
        Check.is("nine leaves for eight", x.faces(0), 0);
        Check.is("the last one is left", Sample.plan(x, 8), "0+1 1+1 2+1 3+1 4+1 5+1 6+1 7+1");
    }

    private static void theGreatestLoss() {
        LeafMatches x = Sample.row(0, 0, 32, 12, 1);
        for (int i = 0; i < 8; i++) {
            x.want(i % 2 == 0 ? 1 : 37);
        }
        Check.is("8 times 11", x.faces(0), 88);
        Check.is("by their numbers", Sample.plan(x, 8), "0+1 1+4 5+1 6+4 10+1 11+4 15+1 16+4");
    }

    /** "rows (that have no leaf in common)" */
    private static void noTwoFacesHaveALeafInCommon() {
        LeafMatches x = Sample.row(0, 0, 1, 12, 1);
        x.want(1);
        Check.is("one for one", x.faces(0), 11);
        x.want(1);
        Check.is("one for two", x.faces(0), NONE);
        x.leaf(0, 1, 12, 1);
        Check.is("two for two", x.faces(0), 22);
        Check.is("one each", Sample.plan(x, 2), "0+1 1+1");
        x.clear();
        x.want(13);
        x.want(1);
        Check.is("two for a long one and one more", x.faces(0), NONE);
    }

    /** "numbers going up by one within a row": between rows they need not. */
    private static void aGapWithinARow() {
        LeafMatches x = new LeafMatches();
        x.leaf(0, 0, 2, 1);
        x.leaf(0, 2, 2, 1);
        x.want(4);
        Check.is("a gap of one", x.faces(0), NONE);
        x.clear();
        x.want(2);
        x.want(2);
        Check.is("between rows", x.faces(0), 0);
        x.clear();
        x.want(4);
        x.leaf(0, 3, 1, 1);
        Check.is("behind the gap it is too little", x.faces(0), NONE);
        x.leaf(0, 1, 2, 1);
        Check.is("no gap", x.faces(0), 0);
        Check.is("the first row", Sample.plan(x, 1), "0+2");
    }

    private static void aReservedOrUsedLeafWithinARow() {
        LeafMatches x = Sample.row(0, 0, 5, 2, 1);
        x.want(6);
        x.reserve(2, 1);
        Check.is("a reserved one between", x.faces(0), NONE);
        x.reserve(2, 1000);
        Check.is("for another order", x.faces(0), NONE);
        x.reserve(2, 0);
        Check.is("for none", x.faces(0), 0);
        Check.is("the first row", Sample.plan(x, 1), "0+3");
        x.match(SLIP, 2);
        Check.is("two used ones before", x.faces(0), 0);
        Check.is("behind them", Sample.plan(x, 1), "2+3");
        x.apart(0);
        x.match(SLIP, 3);
        Check.is("three used ones", x.faces(0), NONE);
    }

    private static void leavesThatNoFaceGetsAreNoLoss() {
        LeafMatches x = new LeafMatches();
        int[] widths = {12, 12, 5, 12, 12};
        for (int i = 0; i < widths.length; i++) {
            x.leaf(0, i, widths[i], 1);
        }
        x.want(5);
        Check.is("those before and behind", x.faces(0), 0);
        Check.is("the one between", Sample.plan(x, 1), "2+1");
    }

    private static void theNumbersAtTheirEnds() {
        LeafMatches x = new LeafMatches();
        x.leaf(3, 1000, 2, 1);
        x.leaf(3, 0, 2, 1);
        x.want(4);
        Check.is("0 does not come behind 1000", x.faces(3), NONE);
        x.leaf(3, 999, 2, 1);
        Check.is("999 and 1000", x.faces(3), 0);
        Check.is("from 999 on", Sample.plan(x, 1), "2+2");
        x.leaf(3, 1, 2, 1);
        Check.is("0 and 1", x.faces(3), 0);
        Check.is("from 0 on", Sample.plan(x, 1), "1+2");
    }

    private static void aFlitchTakesNoLeafOfAnother() {
        LeafMatches x = new LeafMatches();
        for (int flitch = 0; flitch < 4; flitch++) {
            x.leaf(flitch, flitch, 12, 1);
        }
        x.want(13);
        for (int flitch = 0; flitch < 4; flitch++) {
            Check.is("one leaf of " + flitch, x.faces(flitch), NONE);
        }
        x.clear();
        x.want(12);
        for (int flitch = 0; flitch < 4; flitch++) {
            Check.is("its own of " + flitch, x.faces(flitch), 0);
            Check.is("its leaf", Sample.plan(x, 1), flitch + "+1");
        }
    }

    // Promise 18.

    private static void plannedBeforeAnyFaces() {
        LeafMatches x = Sample.row(1);
        Check.throwsJust("nothing yet", Check.STATE, () -> x.planned(0, 0));
        x.want(2);
        Check.throwsJust("wanted, not planned", Check.STATE, () -> x.planned(0, 0));
        x.faces(0);
        Check.throwsJust("no way", Check.STATE, () -> x.planned(0, 0));
        Check.throwsJust("wrong flitch", Check.ARGUMENT, () -> x.faces(4));
        Check.throwsJust("a refused faces", Check.STATE, () -> x.planned(0, 0));
    }

    private static void plannedOfNoSuchFaceWanted() {
        LeafMatches x = Sample.row(8);
        for (int count = 1; count <= 8; count++) {
            x.want(1);
            x.faces(0);
            Check.is("the last of " + count, x.planned(count - 1, 0), count - 1);
            Check.refuses("planned: k of " + count, Check.INDEX, v -> x.planned(v, 0), -1, count, 8, 9);
        }
    }

    private static void plannedWhatIs0Or1() {
        LeafMatches x = Sample.row(3);
        x.want(2);
        x.faces(0);
        Check.is("what 0", x.planned(0, 0), 0);
        Check.is("what 1", x.planned(0, 1), 2);
        Check.refuses("planned: what", Check.ARGUMENT, v -> x.planned(0, v), -1, 2, 3);
    }

    private static void plannedWhenNoneIsWanted() {
        LeafMatches x = new LeafMatches();
        Check.is("a plan of no face", x.faces(0), 0);
        Check.refuses("planned: k of none", Check.INDEX, v -> x.planned(v, 0), -1, 0, 1);
    }

    /** "a face that begins there before none, the one of the lesser number first" */
    private static void plannedOfSeveralPlans() {
        LeafMatches one = Sample.row(32);
        one.want(1);
        one.faces(0);
        Check.is("the first leaf of 32", Sample.plan(one, 1), "0+1");
        LeafMatches last = Sample.row(0, 0, 31, 2, 1);
        last.leaf(0, 31, 1, 1);
        last.want(1);
        Check.is("the least loss is the last leaf's", last.faces(0) + " " + Sample.plan(last, 1), "0 31+1");
        LeafMatches two = Sample.row(3);
        two.want(1);
        two.want(1);
        two.faces(0);
        Check.is("alike: the lesser one first", Sample.plan(two, 2), "0+1 1+1");
        LeafMatches longer = Sample.row(3);
        longer.want(2);
        longer.want(1);
        longer.faces(0);
        Check.is("the lesser one, though it is longer", Sample.plan(longer, 2), "0+2 2+1");
        LeafMatches later = new LeafMatches();
        int[] widths = {2, 1, 2, 1};
        for (int i = 0; i < widths.length; i++) {
            later.leaf(0, i, widths[i], 1);
        }
        later.want(1);
        later.want(2);
        later.faces(0);
        Check.is("the greater one, where the lesser would lose", Sample.plan(later, 2), "1+1 0+1");
    }

    /** "of the latest faces() that found one" */
    private static void plannedAfterNoWay() {
        LeafMatches x = Sample.row(2);
        x.leaf(1, 0, 1, 1);
        x.want(1);
        x.faces(1);
        Check.is("flitch 1", Sample.plan(x, 1), "2+1");
        Check.is("no way in flitch 2", x.faces(2), NONE);
        Check.is("still flitch 1", Sample.plan(x, 1), "2+1");
        x.faces(0);
        Check.is("the latest one", Sample.plan(x, 1), "0+1");
        Check.throwsJust("faces of no flitch", Check.ARGUMENT, () -> x.faces(-1));
        Check.is("still the latest one", Sample.plan(x, 1), "0+1");
    }

    private interface Telling {
        void tell(LeafMatches x);
    }

    /** Leaves 0 and 1 are in a face, 2 and 3 are free, and a plan is found. */
    private static LeafMatches withPlan() {
        LeafMatches x = Sample.row(4);
        x.match(SLIP, 2);
        x.want(1);
        x.faces(0);
        return x;
    }

    private static void gone(String what, Telling telling) {
        LeafMatches x = withPlan();
        Check.is("found before " + what, Sample.plan(x, 1), "2+1");
        telling.tell(x);
        Check.throwsJust("none since " + what, Check.STATE, () -> x.planned(0, 0));
        x.faces(0);
        Check.is("found again since " + what, x.planned(0, 1) >= 1, true);
    }

    private static void plannedSinceSomethingWasTold() {
        gone("a leaf of its flitch", x -> x.leaf(0, 4, 1, 1));
        gone("a leaf of another flitch", x -> x.leaf(3, 4, 1, 1));
        gone("an order", x -> x.reserve(3, 1));
        gone("an order as it was", x -> x.reserve(3, 0));
        gone("one wanted", x -> x.want(1));
        gone("a face apart", x -> x.apart(0));
        gone("cleared and wanted", x -> {
            x.clear();
            x.want(1);
        });
        LeafMatches made = Sample.row(3);
        made.want(1);
        made.faces(0);
        made.match(SLIP, 2);
        Check.throwsJust("none since a face", Check.STATE, () -> made.planned(0, 0));
        LeafMatches cleared = withPlan();
        cleared.clear();
        Check.throwsJust("none since cleared", Check.STATE, () -> cleared.planned(0, 0));
    }

    private static void plannedSinceGreysWereTold() {
        LeafMatches x = withPlan();
        x.pixel(0, 0, 0, 255);
        x.pixel(2, 0, 0, 1);
        x.pixel(3, 0, 0, 0);
        Check.is("greys leave it", Sample.plan(x, 1), "2+1");
    }

    /** Told to no effect: such a call throws, so it changes nothing. */
    private static void plannedSinceARefusedCall() {
        LeafMatches x = withPlan();
        Check.throwsJust("leaf", Check.STATE, () -> x.leaf(0, 0, 1, 1));
        Check.throwsJust("leaf of no flitch", Check.ARGUMENT, () -> x.leaf(4, 0, 1, 1));
        Check.throwsJust("pixel", Check.ARGUMENT, () -> x.pixel(0, 0, 0, 256));
        Check.throwsJust("reserve", Check.ARGUMENT, () -> x.reserve(2, 1001));
        Check.throwsJust("reserve of a used one", Check.STATE, () -> x.reserve(0, 1));
        Check.throwsJust("match", Check.STATE, () -> x.match(SLIP, 3));
        Check.throwsJust("match of no kind", Check.ARGUMENT, () -> x.match(4, 2));
        Check.throwsJust("apart", Check.INDEX, () -> x.apart(1));
        Check.throwsJust("want", Check.ARGUMENT, () -> x.want(101));
        Check.throwsJust("faces", Check.ARGUMENT, () -> x.faces(4));
        Check.is("refused calls leave it", Sample.plan(x, 1), "2+1");
    }

    private static void plannedOfLeaf31() {
        LeafMatches x = Sample.row(1, 0, 31, 1, 1);
        x.leaf(2, 1000, 12, 1);
        x.want(12);
        Check.is("its loss", x.faces(2), 0);
        Check.is("leaf 31", Sample.plan(x, 1), "31+1");
    }

    /** "An object is used for at most 512 calls": the dearest ones, up to the last. */
    private static void theLastOf512Calls() {
        LeafMatches x = Sample.row(0, 0, 32, 12, 1);
        for (int i = 0; i < 8; i++) {
            x.want(37 + i);
        }
        for (int call = 41; call <= 510; call++) {
            Check.is("call " + call, x.faces(0), 60);
        }
        Check.is("call 511 and 512", Sample.plan(x, 1), "0+4");
    }
}
