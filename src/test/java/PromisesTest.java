/** Each promise of the document: ordinary inputs, its edges, wrong inputs. */
public final class PromisesTest {
    private static final int NONE = LeafMatches.NONE;
    private static final int BOOK = LeafMatches.BOOK;
    private static final int SLIP = LeafMatches.SLIP;
    private static final int REVERSED = LeafMatches.REVERSED;
    private static final int DIAMOND = LeafMatches.DIAMOND;
    private static final int LEAST = Integer.MIN_VALUE;
    private static final int GREATEST = Integer.MAX_VALUE;

    public static void main(String[] args) {
        promise1NewObject();
        promise2Leaf();
        promise3Pixel();
        promise4Reserve();
        promise5Match();
        promise5LeastFlitchAndBrokenOrder();
        promise6Apart();
        promise6ApartOfEight();
        promise7PlaceByKind();
        promise7PlaceShifted();
        promise7PlaceDiamond();
        promise8At();
        promise8AtDiamond();
        promise9About();
        promise10Seam();
        promise11Sum();
        promise12Mirrored();
        promise13Balance();
        promise14Number();
        promise15Want();
        promise16Clear();
        promise17Faces();
        promise18Planned();
        promise18PlannedOfSeveral();
        promise18PlannedSince();
        Check.done();
    }

    /** Flitch 0 with n leaves of 2 columns and 3 rows; every pixel has a grey of its own. */
    private static LeafMatches withDistinctGreys(int n) {
        LeafMatches x = new LeafMatches();
        for (int i = 0; i < n; i++) {
            x.leaf(0, i, 2, 3);
            for (int y = 0; y < 3; y++) {
                for (int c = 0; c < 2; c++) {
                    x.pixel(i, c, y, distinctGrey(i, c, y));
                }
            }
        }
        return x;
    }

    private static int distinctGrey(int leaf, int c, int y) {
        return 1 + leaf * 6 + y * 2 + c;
    }

    private static void promise1NewObject() {
        LeafMatches x = new LeafMatches();
        Check.throwsJust("new: no leaf", Check.INDEX, () -> x.pixel(0, 0, 0, 0));
        Check.throwsJust("new: no leaf to reserve", Check.INDEX, () -> x.reserve(0, 1));
        Check.throwsJust("new: no leaf to match", Check.STATE, () -> x.match(BOOK, 2));
        Check.throwsJust("new: no face", Check.INDEX, () -> x.about(0, 0));
        Check.throwsJust("new: no face to take apart", Check.INDEX, () -> x.apart(0));
        Check.throwsJust("new: no plan", Check.STATE, () -> x.planned(0, 0));
        Check.is("new: none wanted", x.clear(), 0);
        for (int f = 0; f < 4; f++) {
            LeafMatches y = new LeafMatches();
            y.want(1);
            Check.is("new: no leaf of flitch " + f, y.faces(f), NONE);
        }
    }

    private static void promise2Leaf() {
        LeafMatches x = new LeafMatches();
        Check.is("leaf 0", x.leaf(0, 0, 1, 1), 0);
        Check.is("leaf 1", x.leaf(3, 1000, 12, 12), 1);
        Check.is("the same number in another flitch", x.leaf(1, 0, 12, 1), 2);
        Check.throwsJust("number twice", Check.STATE, () -> x.leaf(0, 0, 1, 1));
        Check.throwsJust("number twice, wrong w", Check.STATE, () -> x.leaf(0, 0, 0, 1));
        Check.throwsJust("flitch -1", Check.ARGUMENT, () -> x.leaf(-1, 5, 1, 1));
        Check.throwsJust("flitch 4", Check.ARGUMENT, () -> x.leaf(4, 5, 1, 1));
        Check.throwsJust("number -1", Check.ARGUMENT, () -> x.leaf(0, -1, 1, 1));
        Check.throwsJust("number 1001", Check.ARGUMENT, () -> x.leaf(0, 1001, 1, 1));
        Check.throwsJust("w 0", Check.ARGUMENT, () -> x.leaf(0, 5, 0, 1));
        Check.throwsJust("w 13", Check.ARGUMENT, () -> x.leaf(0, 5, 13, 1));
        Check.throwsJust("h 0", Check.ARGUMENT, () -> x.leaf(0, 5, 1, 0));
        Check.throwsJust("h 13", Check.ARGUMENT, () -> x.leaf(0, 5, 1, 13));
        Check.throwsJust("extremes", Check.ARGUMENT, () -> x.leaf(LEAST, GREATEST, LEAST, GREATEST));
        for (int i = 3; i < 32; i++) {
            Check.is("leaf " + i, x.leaf(2, 40 - i, 1, 1), i);
        }
        Check.throwsJust("33rd leaf", Check.STATE, () -> x.leaf(0, 5, 1, 1));
        Check.throwsJust("33rd leaf, all wrong", Check.STATE, () -> x.leaf(9, -1, 0, 0));
    }

    private static void promise3Pixel() {
        LeafMatches x = Sample.leaves(3, 2, 3, 2);
        Check.is("0 at first", x.pixel(0, 2, 1, 0), false);
        Check.is("another grey", x.pixel(0, 2, 1, 255), true);
        Check.is("the same grey", x.pixel(0, 2, 1, 255), false);
        Check.is("its neighbour keeps its grey", x.pixel(0, 1, 1, 0), false);
        Check.is("the other leaf keeps its grey", x.pixel(1, 2, 1, 0), false);
        Check.is("back to 0", x.pixel(0, 2, 1, 0), true);
        Check.throwsJust("leaf -1", Check.INDEX, () -> x.pixel(-1, 0, 0, 0));
        Check.throwsJust("leaf 2", Check.INDEX, () -> x.pixel(2, 0, 0, 0));
        Check.throwsJust("x 3", Check.INDEX, () -> x.pixel(0, 3, 0, 0));
        Check.throwsJust("x -1", Check.INDEX, () -> x.pixel(0, -1, 1, 0));
        Check.throwsJust("y 2", Check.INDEX, () -> x.pixel(0, 0, 2, 0));
        Check.throwsJust("y -1", Check.INDEX, () -> x.pixel(0, 0, -1, 0));
        Check.throwsJust("v 256", Check.ARGUMENT, () -> x.pixel(0, 0, 0, 256));
        Check.throwsJust("v -1", Check.ARGUMENT, () -> x.pixel(0, 0, 0, -1));
        Check.throwsJust("y 2 before v", Check.INDEX, () -> x.pixel(0, 0, 2, 256));
        Check.is("wrong calls left it", x.pixel(0, 0, 0, 0), false);
        x.reserve(0, 4);
        Check.is("a reserved leaf", x.pixel(0, 0, 0, 9), true);
        x.reserve(0, 0);
        x.match(SLIP, 2);
        Check.is("a used leaf", x.pixel(0, 0, 0, 8), true);
    }

    private static void promise4Reserve() {
        LeafMatches x = Sample.leaves(1, 1, 1, 1, 1, 1);
        Check.is("for none as at first", x.reserve(2, 0), false);
        Check.is("for an order", x.reserve(0, 1000), true);
        Check.is("for the same", x.reserve(0, 1000), false);
        Check.is("for another", x.reserve(0, 1), true);
        Check.throwsJust("leaf 3", Check.INDEX, () -> x.reserve(3, 5000));
        Check.throwsJust("leaf -1", Check.INDEX, () -> x.reserve(-1, 0));
        Check.throwsJust("order 1001", Check.ARGUMENT, () -> x.reserve(0, 1001));
        Check.throwsJust("order -1", Check.ARGUMENT, () -> x.reserve(0, -1));
        Check.is("wrong calls left it", x.reserve(0, 1), false);
        Check.is("match past the reserved one", x.match(BOOK, 2), 0);
        Check.is("without it", Sample.places(x, 0, 0), "1 2");
        Check.throwsJust("used", Check.STATE, () -> x.reserve(1, 1));
        Check.throwsJust("used before order", Check.STATE, () -> x.reserve(1, 1001));
        Check.is("the reserved one still", x.reserve(0, 0), true);
        x.apart(0);
        Check.is("not used any more", x.reserve(1, 7), true);
        Check.is("free again", x.reserve(1, 0), true);
        Check.is("match takes it", x.match(SLIP, 3), 0);
    }

    private static void promise5Match() {
        LeafMatches x = new LeafMatches();
        for (int i = 0; i < 32; i++) {
            x.leaf(i / 16, i % 16, 1, 1);
        }
        Check.throwsJust("kind 4", Check.ARGUMENT, () -> x.match(4, 2));
        Check.throwsJust("kind -1", Check.ARGUMENT, () -> x.match(-1, 2));
        Check.throwsJust("n 1", Check.ARGUMENT, () -> x.match(BOOK, 1));
        Check.throwsJust("n 0", Check.ARGUMENT, () -> x.match(BOOK, 0));
        Check.throwsJust("n least", Check.ARGUMENT, () -> x.match(BOOK, LEAST));
        Check.throwsJust("n 9", Check.ARGUMENT, () -> x.match(BOOK, 9));
        Check.throwsJust("n 17", Check.STATE, () -> x.match(BOOK, 17));
        Check.throwsJust("n greatest, kind wrong", Check.STATE, () -> x.match(9, GREATEST));
        Check.throwsJust("diamond of 3", Check.ARGUMENT, () -> x.match(DIAMOND, 3));
        Check.throwsJust("diamond of 5", Check.ARGUMENT, () -> x.match(DIAMOND, 5));
        Check.is("of 8", x.match(BOOK, 8), 0);
        Check.is("diamond", x.match(DIAMOND, 4), 1);
        for (int i = 2; i < 8; i++) {
            Check.is("face " + i, x.match(i % 3, 2), i);
        }
        Check.is("the first one's leaves", Sample.places(x, 0, 0), "0 1 2 3 4 5 6 7");
        Check.is("the diamond's leaves", Sample.places(x, 1, 0), "8 9 10 11");
        Check.is("the next flitch", Sample.places(x, 4, 0), "16 17");
        Check.throwsJust("9th face", Check.STATE, () -> x.match(BOOK, 2));
        Check.throwsJust("9th face, kind wrong", Check.STATE, () -> x.match(4, 0));
        LeafMatches none = new LeafMatches();
        Check.throwsJust("no leaf, n 1", Check.STATE, () -> none.match(BOOK, 1));
        Check.throwsJust("no leaf, n 0", Check.ARGUMENT, () -> none.match(BOOK, 0));
    }

    private static void promise5LeastFlitchAndBrokenOrder() {
        LeafMatches x = new LeafMatches();
        x.leaf(2, 7, 1, 1);
        x.leaf(2, 5, 1, 1);
        x.leaf(2, 6, 1, 1);
        x.leaf(1, 3, 1, 1);
        Check.is("the flitch that has two", x.match(BOOK, 2), 0);
        Check.is("by their numbers", Sample.places(x, 0, 0), "1 2");
        x.leaf(1, 5, 1, 1);
        Check.is("broken", x.match(BOOK, 2), NONE);
        Check.is("broken uses none", x.reserve(3, 0), false);
        x.leaf(1, 4, 1, 1);
        x.leaf(1, 9, 1, 1);
        Check.is("only the first n count", x.match(SLIP, 3), 1);
        Check.is("by their numbers again", Sample.places(x, 1, 0), "3 5 4");
        x.leaf(2, 8, 1, 1);
        Check.is("past a flitch with one", x.match(SLIP, 2), 2);
        Check.is("its leaves", Sample.places(x, 2, 0), "0 7");
        x.apart(2);
        x.reserve(7, 1);
        Check.throwsJust("a reserved one is not counted", Check.STATE, () -> x.match(SLIP, 2));
        LeafMatches y = Sample.leaves(1, 1, 1, 1, 1, 1);
        y.reserve(1, 1);
        y.leaf(1, 0, 1, 1);
        y.leaf(1, 1, 1, 1);
        Check.is("a reserved one breaks the order, no other flitch helps", y.match(BOOK, 2), NONE);
    }

    private static void promise6Apart() {
        LeafMatches x = Sample.leaves(1, 1, 1, 1, 1, 1, 1, 1, 1, 1, 1, 1, 1, 1);
        x.match(BOOK, 2);
        x.match(SLIP, 3);
        x.match(REVERSED, 2);
        Check.throwsJust("face 3", Check.INDEX, () -> x.apart(3));
        Check.throwsJust("face -1", Check.INDEX, () -> x.apart(-1));
        Check.is("two stay", x.apart(1), 2);
        Check.is("the one before stays", x.about(0, 3), BOOK);
        Check.is("the one behind moves up", x.about(1, 3), REVERSED);
        Check.throwsJust("no third", Check.INDEX, () -> x.about(2, 3));
        Check.is("its leaves are free", x.match(BOOK, 3), 2);
        Check.is("the same leaves", Sample.places(x, 2, 0), "2 3 4");
        Check.is("one", x.apart(0), 2);
        Check.is("two", x.apart(1), 1);
        Check.is("three", x.apart(0), 0);
        Check.throwsJust("none left", Check.INDEX, () -> x.apart(0));
        Check.is("all free", x.match(SLIP, 7), 0);
    }

    private static void promise6ApartOfEight() {
        LeafMatches x = new LeafMatches();
        for (int i = 0; i < 32; i++) {
            x.leaf(0, i, 1, 1);
        }
        Check.throwsJust("leaf 32", Check.INDEX, () -> x.pixel(32, 0, 0, 0));
        Check.throwsJust("leaf 32 reserved", Check.INDEX, () -> x.reserve(32, 0));
        for (int i = 0; i < 8; i++) {
            x.match(SLIP, 4);
        }
        Check.throwsJust("face 8", Check.INDEX, () -> x.apart(8));
        Check.throwsJust("about face 8", Check.INDEX, () -> x.about(8, 0));
        Check.is("the first of eight", x.apart(0), 7);
        Check.is("the last one moved up", Sample.places(x, 6, 0), "28 29 30 31");
        Check.throwsJust("no eighth", Check.INDEX, () -> x.about(7, 0));
        Check.is("room for one more", x.match(BOOK, 4), 7);
        Check.is("the last of eight", x.apart(7), 7);
    }

    private static void promise7PlaceByKind() {
        LeafMatches x = Sample.leaves(2, 1, 3, 1, 4, 1, 5, 1);
        int[] kinds = {BOOK, SLIP, REVERSED};
        String[] mirrors = {"0 1 0 1", "0 0 0 0", "0 0 0 0"};
        String[] turns = {"0 0 0 0", "0 0 0 0", "0 1 0 1"};
        for (int kind : kinds) {
            x.match(kind, 4);
            Check.is("leaves of " + kind, Sample.places(x, 0, 0), "0 1 2 3");
            Check.is("mirrored of " + kind, Sample.places(x, 0, 1), mirrors[kind]);
            Check.is("turned of " + kind, Sample.places(x, 0, 2), turns[kind]);
            Check.is("across of " + kind, Sample.places(x, 0, 3), "0 2 5 9");
            Check.is("tops of " + kind, Sample.places(x, 0, 4), "0 0 0 0");
            x.apart(0);
        }
        x.match(SLIP, 2);
        Check.throwsJust("face 1", Check.INDEX, () -> x.place(1, 0, 0));
        Check.throwsJust("face -1", Check.INDEX, () -> x.place(-1, 0, 0));
        Check.throwsJust("piece 2", Check.INDEX, () -> x.place(0, 2, 0));
        Check.throwsJust("piece -1", Check.INDEX, () -> x.place(0, -1, 9));
        Check.throwsJust("what 5", Check.ARGUMENT, () -> x.place(0, 0, 5));
        Check.throwsJust("what -1", Check.ARGUMENT, () -> x.place(0, 0, -1));
    }

    /** Piece 1's figure lies a row lower than piece 0's, piece 2's two rows lower than piece 1's. */
    private static LeafMatches shiftedSlip() {
        LeafMatches x = Sample.leaves(1, 6, 1, 6, 1, 6);
        Sample.column(x, 0, 0, 240, 5, 0, 250, 255, 0);
        Sample.column(x, 1, 0, 255, 240, 5, 0, 250, 255);
        Sample.column(x, 2, 0, 0, 10, 255, 240, 5, 0);
        x.match(SLIP, 3);
        return x;
    }

    private static void promise7PlaceShifted() {
        LeafMatches x = shiftedSlip();
        Check.is("shift 0", x.seam(0, 0), -1);
        Check.is("shift 1", x.seam(0, 1), -2);
        Check.is("tops add up", Sample.places(x, 0, 4), "0 -1 -3");
        Sample.column(x, 1, 0, 240, 5, 0, 250, 255, 0);
        Check.is("by the greys as they are", x.place(0, 1, 4), 0);
        Sample.column(x, 1, 0, 5, 0, 250, 255, 0, 100);
        Check.is("lower", x.place(0, 1, 4), 1);
    }

    private static void promise7PlaceDiamond() {
        LeafMatches x = Sample.leaves(2, 4, 3, 4, 3, 3, 5, 5);
        Sample.column(x, 0, 1, 0, 255, 0, 255);
        Sample.column(x, 1, 2, 100, 0, 255, 0);
        x.match(DIAMOND, 4);
        Check.is("diamond: leaves", Sample.places(x, 0, 0), "0 1 2 3");
        Check.is("diamond: mirrored", Sample.places(x, 0, 1), "0 1 0 1");
        Check.is("diamond: turned", Sample.places(x, 0, 2), "0 0 1 1");
        Check.is("diamond: across", Sample.places(x, 0, 3), "0 2 0 2");
        Check.is("diamond: tops", Sample.places(x, 0, 4), "0 0 4 4");
        Check.is("diamond: its shift is told", x.seam(0, 0), -1);
    }

    private static void promise8At() {
        int[] kinds = {BOOK, SLIP, REVERSED};
        for (int kind : kinds) {
            LeafMatches x = withDistinctGreys(3);
            x.match(kind, 3);
            int least = Math.min(0, Math.min(x.place(0, 1, 4), x.place(0, 2, 4)));
            for (int k = 0; k < 3; k++) {
                for (int c = 0; c < 2; c++) {
                    for (int y = 0; y < 3; y++) {
                        int column = kind == BOOK && k == 1 ? 1 - c : c;
                        int row = kind == REVERSED && k == 1 ? 2 - y : y;
                        Check.is("at " + kind + " " + k + " " + c + " " + y,
                                x.at(0, 2 * k + c, x.place(0, k, 4) - least + y), distinctGrey(k, column, row));
                    }
                }
            }
            Check.throwsJust("face 1", Check.INDEX, () -> x.at(1, 0, 0));
            Check.throwsJust("face -1", Check.INDEX, () -> x.at(-1, 0, 0));
            Check.is("left of it", x.at(0, -1, 1), NONE);
            Check.is("right of it", x.at(0, 6, 1), NONE);
            Check.is("far off", "" + x.at(0, LEAST, 0) + x.at(0, 0, LEAST) + x.at(0, GREATEST, GREATEST)
                    + x.at(0, LEAST, LEAST) + x.at(0, 0, GREATEST), "-1-1-1-1-1");
        }
        LeafMatches x = shiftedSlip();
        Check.is("above the first one", x.at(0, 0, 2), NONE);
        Check.is("the first one's top", x.at(0, 0, 3), 240);
        Check.is("the first one's bottom", x.at(0, 0, 7) + " " + x.at(0, 0, 8), "255 0");
        Check.is("below the first one", x.at(0, 0, 9), NONE);
        Check.is("above the second one", x.at(0, 1, 1), NONE);
        Check.is("the second one's figure goes on", x.at(0, 1, 2) + " " + x.at(0, 1, 3), "255 240");
        Check.is("the least top", x.at(0, 2, 0) + " " + x.at(0, 2, 1), "0 10");
        Check.is("above all", x.at(0, 2, -1), NONE);
        Check.is("below the last one", x.at(0, 2, 5) + " " + x.at(0, 2, 6), "0 -1");
        x.pixel(0, 0, 0, 200);
        Check.is("the grey as it is", x.at(0, 0, 3), 200);
    }

    private static void promise8AtDiamond() {
        LeafMatches x = Sample.leaves(2, 2, 2, 4, 3, 2, 2, 2);
        for (int leaf = 0; leaf < 4; leaf++) {
            int height = leaf == 1 ? 4 : 2;
            int width = leaf == 2 ? 3 : 2;
            for (int y = 0; y < height; y++) {
                for (int c = 0; c < width; c++) {
                    x.pixel(leaf, c, y, 10 + leaf * 50 + y * 10 + c);
                }
            }
        }
        x.match(DIAMOND, 4);
        Check.is("0 as it is", "" + x.at(0, 0, 0) + " " + x.at(0, 1, 1), "10 21");
        Check.is("1 mirrored", "" + x.at(0, 2, 0) + " " + x.at(0, 3, 1), "61 70");
        Check.is("2 turned", "" + x.at(0, 0, 2) + " " + x.at(0, 1, 3), "120 111");
        Check.is("1 before 2 and 3", "" + x.at(0, 2, 2) + " " + x.at(0, 3, 3), "81 90");
        Check.is("below", x.at(0, 0, 4), NONE);
        LeafMatches y = Sample.leaves(1, 1, 1, 1, 3, 1, 2, 2);
        Sample.column(y, 2, 2, 77);
        Sample.column(y, 3, 0, 1, 2);
        Sample.column(y, 3, 1, 3, 4);
        y.match(DIAMOND, 4);
        Check.is("2 before 3", y.at(0, 2, 1), 77);
        Check.is("3 both", "" + y.at(0, 1, 2) + " " + y.at(0, 2, 2), "3 1");
        Check.is("no piece", y.at(0, 2, 0) + " " + y.at(0, 0, 2), "-1 -1");
    }

    private static void promise9About() {
        LeafMatches x = shiftedSlip();
        Check.is("across", x.about(0, 0), 3);
        Check.is("down", x.about(0, 1), 9);
        Check.is("pieces", x.about(0, 2), 3);
        Check.is("kind", x.about(0, 3), SLIP);
        Check.throwsJust("what 4", Check.ARGUMENT, () -> x.about(0, 4));
        Check.throwsJust("what -1", Check.ARGUMENT, () -> x.about(0, -1));
        Check.throwsJust("face before what", Check.INDEX, () -> x.about(1, 4));
        Check.throwsJust("face -1", Check.INDEX, () -> x.about(-1, 0));
        LeafMatches tall = Sample.leaves(12, 2, 12, 12);
        tall.match(REVERSED, 2);
        Check.is("across of the widest", tall.about(0, 0), 24);
        Check.is("down of the taller", tall.about(0, 1), 12);
        Check.is("kind REVERSED", tall.about(0, 3), REVERSED);
        LeafMatches wide = Sample.leaves(1, 2, 2, 1, 9, 3, 3, 4);
        wide.match(DIAMOND, 4);
        Check.is("diamond: a wide piece 2", wide.about(0, 0), 9);
        Check.is("diamond: piece 3's bottom", wide.about(0, 1), 6);
        Check.is("diamond: pieces", wide.about(0, 2), 4);
        Check.is("diamond: kind", wide.about(0, 3), DIAMOND);
        LeafMatches long1 = Sample.leaves(2, 1, 5, 9, 1, 1, 6, 2);
        long1.match(DIAMOND, 4);
        Check.is("diamond: piece 3's end", long1.about(0, 0), 8);
        Check.is("diamond: a long piece 1", long1.about(0, 1), 9);
    }

    private static void promise10Seam() {
        for (int shift = -3; shift <= 3; shift++) {
            LeafMatches x = Sample.leaves(1, 12, 1, 12);
            String figure = "000101111110100010";
            for (int y = 0; y < 12; y++) {
                x.pixel(0, 0, y, 255 * (figure.charAt(y + 3) - '0'));
                x.pixel(1, 0, y, 255 * (figure.charAt(y + 3 + shift) - '0'));
            }
            x.match(SLIP, 2);
            Check.is("seam of " + shift, x.seam(0, 0), shift);
        }
        LeafMatches x = Sample.leaves(1, 3, 1, 9, 1, 3, 1, 3);
        x.match(BOOK, 4);
        Check.is("alike: 0 first", x.seam(0, 0), 0);
        Sample.column(x, 0, 0, 10, 10, 10);
        Sample.column(x, 1, 0, 0, 0, 9, 0, 9, 9, 9, 9, 9);
        Check.is("-2 and -3 alike", x.sum(0, 0, -3), x.sum(0, 0, -2));
        Check.is("-2 before -3", x.seam(0, 0), -2);
        Check.throwsJust("seam 3", Check.INDEX, () -> x.seam(0, 3));
        Check.throwsJust("seam -1", Check.INDEX, () -> x.seam(0, -1));
        Check.throwsJust("face 1", Check.INDEX, () -> x.seam(1, 0));
        LeafMatches both = Sample.leaves(1, 2, 1, 4);
        Sample.column(both, 0, 0, 100, 100);
        Sample.column(both, 1, 0, 0, 100, 100, 0);
        both.match(SLIP, 2);
        Check.is("up", both.seam(0, 0), -1);
        Sample.column(both, 0, 0, 255, 255);
        Sample.column(both, 1, 0, 0, 0, 0, 0);
        Check.is("all alike where rows meet", both.seam(0, 0), 0);
        Sample.column(both, 1, 0, 0, 10, 20, 20);
        Check.is("the least of all", both.seam(0, 0), -2);
        promise10SeveralLeast();
        promise10Diamond();
    }

    /** Each row: the two figures (1 is white), and the two shifts of the least sum, the first one due. */
    private static void promise10SeveralLeast() {
        several("1", "11", 0, -1);
        several("1001", "1", 0, 3);
        several("10", "01", -1, 1);
        several("110", "1011", 1, -2);
        several("0011", "1100", -2, 2);
        several("00011", "011000", 2, -3);
        several("111000", "000111", -3, 3);
    }

    private static void several(String left, String right, int due, int other) {
        LeafMatches x = Sample.leaves(1, left.length(), 1, right.length());
        for (int y = 0; y < left.length(); y++) {
            x.pixel(0, 0, y, 255 * (left.charAt(y) - '0'));
        }
        for (int y = 0; y < right.length(); y++) {
            x.pixel(1, 0, y, 255 * (right.charAt(y) - '0'));
        }
        x.match(SLIP, 2);
        Check.is(due + " and " + other + " alike", x.sum(0, 0, other), x.sum(0, 0, due));
        Check.is(due + " before " + other, x.seam(0, 0), due);
    }

    private static void promise10Diamond() {
        LeafMatches x = Sample.leaves(2, 3, 2, 3, 2, 3, 2, 3);
        Sample.column(x, 2, 1, 1, 100, 200);
        Sample.column(x, 3, 1, 100, 200, 7);
        x.match(DIAMOND, 4);
        Check.is("diamond seam 0", x.seam(0, 0), 0);
        Check.is("diamond seam 1, turned", x.seam(0, 1), -1);
        Check.throwsJust("diamond seam 2", Check.INDEX, () -> x.seam(0, 2));
        Check.is("diamond seam 1: sum", x.sum(0, 1, -1), 255L);
        Check.throwsJust("diamond sum 2", Check.INDEX, () -> x.sum(0, 2, 0));
        Check.throwsJust("diamond mirrored 2", Check.INDEX, () -> x.mirrored(0, 2));
        Check.is("diamond mirrored 0", x.mirrored(0, 0), true);
        Check.is("diamond mirrored 1", x.mirrored(0, 1), false);
    }

    private static void promise11Sum() {
        LeafMatches x = Sample.leaves(2, 3, 2, 2, 2, 3);
        Sample.column(x, 0, 0, 1, 1, 1);
        Sample.column(x, 0, 1, 10, 20, 30);
        Sample.column(x, 1, 0, 200, 100);
        Sample.column(x, 1, 1, 15, 40);
        Sample.column(x, 2, 0, 0, 50, 255);
        x.match(BOOK, 3);
        Check.is("0", x.sum(0, 0, 0), 5L + 20 + 255);
        Check.is("1", x.sum(0, 0, 1), 255L + 5 + 10);
        Check.is("2", x.sum(0, 0, 2), 255L + 255 + 15);
        Check.is("3", x.sum(0, 0, 3), 765L);
        Check.is("-1", x.sum(0, 0, -1), 30L + 255 + 255);
        Check.is("-2", x.sum(0, 0, -2), 765L);
        Check.is("-3", x.sum(0, 0, -3), 765L);
        Check.is("the second seam", x.sum(0, 1, 0), 200L + 50);
        Check.is("the right one's rows need not meet", x.sum(0, 1, -1), 150L + 155);
        Check.throwsJust("shift 4", Check.ARGUMENT, () -> x.sum(0, 0, 4));
        Check.throwsJust("shift -4", Check.ARGUMENT, () -> x.sum(0, 0, -4));
        Check.throwsJust("shift least", Check.ARGUMENT, () -> x.sum(0, 0, LEAST));
        Check.throwsJust("seam before shift", Check.INDEX, () -> x.sum(0, 2, 4));
        Check.throwsJust("seam -1", Check.INDEX, () -> x.sum(0, -1, 0));
        Check.throwsJust("face 1", Check.INDEX, () -> x.sum(1, 0, 0));
        x.pixel(1, 1, 0, 10);
        Check.is("by the greys as they are", x.sum(0, 0, 0), 20L + 255);
        x.apart(0);
        x.match(SLIP, 3);
        Check.is("slip", x.sum(0, 0, 0), 190L + 80 + 255);
        x.apart(0);
        x.match(REVERSED, 3);
        Check.is("reversed", x.sum(0, 0, 0), 90L + 180 + 255);
    }

    private static void promise12Mirrored() {
        LeafMatches x = Sample.leaves(2, 2, 2, 2, 2, 2);
        Sample.column(x, 0, 1, 5, 6);
        Sample.column(x, 1, 1, 5, 6);
        x.match(BOOK, 3);
        Check.is("true at 0", x.mirrored(0, 0), true);
        Check.is("true at 1", x.mirrored(0, 1), true);
        x.pixel(1, 1, 1, 7);
        Check.is("not at 0 by the greys as they are", x.mirrored(0, 0), false);
        Check.is("still at 1", x.mirrored(0, 1), true);
        Check.throwsJust("seam 2", Check.INDEX, () -> x.mirrored(0, 2));
        Check.throwsJust("seam -1", Check.INDEX, () -> x.mirrored(0, -1));
        Check.throwsJust("face 1", Check.INDEX, () -> x.mirrored(1, 0));
        LeafMatches shifted = Sample.leaves(1, 1, 1, 2);
        Sample.column(shifted, 0, 0, 9);
        Sample.column(shifted, 1, 0, 0, 9);
        shifted.match(SLIP, 2);
        Check.is("a sum of 0 at another shift", shifted.sum(0, 0, -1), 0L);
        Check.is("is not true", shifted.mirrored(0, 0), false);
        LeafMatches tall = Sample.leaves(1, 2, 1, 1);
        tall.match(SLIP, 2);
        Check.is("a row that meets none", tall.mirrored(0, 0), false);
    }

    private static boolean balanced(int kind, int... widths) {
        LeafMatches x = new LeafMatches();
        for (int i = 0; i < widths.length; i++) {
            x.leaf(0, i, widths[i], 1);
        }
        x.match(kind, widths.length);
        return x.balance(0);
    }

    private static void promise13Balance() {
        Check.is("at the seam", balanced(BOOK, 4, 4), true);
        Check.is("beside the seam", balanced(BOOK, 4, 5), false);
        Check.is("in a middle", balanced(SLIP, 4, 3, 4), true);
        Check.is("an odd middle", balanced(SLIP, 4, 2, 4), true);
        Check.is("beside a middle", balanced(SLIP, 4, 3, 5), false);
        Check.is("a half beside a middle", balanced(SLIP, 4, 4, 5), false);
        Check.is("a seam of uneven pieces", balanced(REVERSED, 5, 1, 2, 3, 1), true);
        Check.is("the last seam", balanced(REVERSED, 5, 1, 2, 3, 1, 12), true);
        Check.is("no seam of uneven pieces", balanced(REVERSED, 5, 1, 3, 3, 1), false);
        Check.is("the first one's middle never", balanced(SLIP, 12, 1), false);
        Check.is("diamond at its seam", balanced(DIAMOND, 4, 4, 4, 4), true);
        Check.is("diamond beside", balanced(DIAMOND, 4, 4, 4, 5), false);
        Check.is("diamond, a wide piece's middle", balanced(DIAMOND, 1, 1, 9, 1), true);
        LeafMatches x = new LeafMatches();
        Check.throwsJust("face 0", Check.INDEX, () -> x.balance(0));
        Check.throwsJust("face -1", Check.INDEX, () -> x.balance(-1));
    }

    private static void promise14Number() {
        LeafMatches x = new LeafMatches();
        int[] starts = {997, 10, 0, 100};
        for (int f = 0; f < 4; f++) {
            for (int i = 0; i < 4; i++) {
                x.leaf(f, starts[f] + i, 1, 1);
            }
        }
        x.match(DIAMOND, 4);
        x.match(BOOK, 4);
        x.match(SLIP, 4);
        x.match(REVERSED, 4);
        Check.is("diamond 0", Sample.written(x, 0, 0), "F1D997");
        Check.is("diamond 1", Sample.written(x, 0, 1), "F1D998m");
        Check.is("diamond 2", Sample.written(x, 0, 2), "F1D999t");
        Check.is("diamond 3", Sample.written(x, 0, 3), "F1D1000mt");
        Check.is("book 0", Sample.written(x, 1, 0), "F2B10");
        Check.is("book 1", Sample.written(x, 1, 1), "F2B11m");
        Check.is("slip 0", Sample.written(x, 2, 0), "F3S0");
        Check.is("reversed 1", Sample.written(x, 3, 1), "F4R101t");
        Check.is("behind it", x.number(0, 3, 9), NONE);
        Check.is("far behind it", x.number(0, 3, GREATEST), NONE);
        Check.throwsJust("i -1", Check.ARGUMENT, () -> x.number(0, 0, -1));
        Check.throwsJust("piece before i", Check.INDEX, () -> x.number(0, 4, -1));
        Check.throwsJust("piece -1", Check.INDEX, () -> x.number(0, -1, 0));
        Check.throwsJust("face 4", Check.INDEX, () -> x.number(4, 0, 0));
        x.apart(0);
        Check.is("the face's number as it is", Sample.written(x, 0, 1), "F1B11m");
    }

    private static void promise15Want() {
        LeafMatches x = new LeafMatches();
        Check.throwsJust("w 0", Check.ARGUMENT, () -> x.want(0));
        Check.throwsJust("w 101", Check.ARGUMENT, () -> x.want(101));
        Check.is("1", x.want(1), 1);
        Check.is("100", x.want(100), 2);
        for (int i = 3; i <= 8; i++) {
            Check.is("wanted " + i, x.want(i), i);
        }
        Check.throwsJust("9th", Check.STATE, () -> x.want(1));
        Check.throwsJust("9th, w wrong", Check.STATE, () -> x.want(0));
        Check.is("8 there were", x.clear(), 8);
    }

    private static void promise16Clear() {
        LeafMatches x = Sample.leaves(3, 1);
        x.want(50);
        x.want(2);
        Check.is("no way", x.faces(0), NONE);
        Check.is("two were", x.clear(), 2);
        Check.is("none were", x.clear(), 0);
        Check.is("none are wanted", x.faces(0), 0);
        Check.is("the first one again", x.want(2), 1);
        Check.is("only that one", x.faces(0), 1);
    }

    private static void promise17Faces() {
        LeafMatches x = new LeafMatches();
        Check.throwsJust("flitch -1", Check.ARGUMENT, () -> x.faces(-1));
        Check.throwsJust("flitch 4", Check.ARGUMENT, () -> x.faces(4));
        Check.is("none wanted, no leaf", x.faces(3), 0);
        x.leaf(3, 12, 4, 1);
        x.leaf(3, 10, 3, 1);
        x.leaf(3, 11, 5, 1);
        x.leaf(3, 14, 9, 1);
        x.want(8);
        Check.is("3 and 5", x.faces(3), 0);
        x.want(4);
        Check.is("and 4", x.faces(3), 0);
        x.want(7);
        Check.is("and 9 for 7", x.faces(3), 2);
        x.want(1);
        Check.is("no leaf is left", x.faces(3), NONE);
        x.clear();
        x.want(10);
        Check.is("4 and 9 are not in a row", x.faces(3), 2);
        x.want(9);
        Check.is("10 and 9", x.faces(3), 2);
        x.reserve(2, 1);
        Check.is("a reserved one breaks it", x.faces(3), NONE);
        x.reserve(2, 0);
        x.leaf(3, 13, 1, 1);
        Check.is("a leaf between joins them", x.faces(3), 0);
        x.clear();
        x.want(14);
        Check.is("4, 1 and 9", x.faces(3), 0);
        x.match(BOOK, 2);
        Check.is("used ones are not taken", x.faces(3), 0);
        x.clear();
        x.want(15);
        Check.is("not enough", x.faces(3), NONE);
        Check.is("another flitch has none", x.faces(0), NONE);
        x.apart(0);
        Check.is("with them again", x.faces(3), 4);
        LeafMatches full = new LeafMatches();
        for (int i = 0; i < 32; i++) {
            full.leaf(1, i, 12, 12);
        }
        for (int i = 0; i < 8; i++) {
            full.want(37);
        }
        Check.is("8 wanted from 32", full.faces(1), 8 * 11);
        full.reserve(0, 1);
        Check.is("8 wanted from 31", full.faces(1), NONE);
    }

    private static void promise18Planned() {
        LeafMatches x = new LeafMatches();
        x.leaf(0, 22, 4, 1);
        x.leaf(0, 20, 3, 1);
        x.leaf(0, 21, 5, 1);
        x.leaf(0, 24, 9, 1);
        x.want(9);
        x.want(8);
        x.want(3);
        Check.is("loss", x.faces(0), 1);
        Check.is("plan", Sample.plan(x, 3), "3+1 1+2 0+1");
        Check.throwsJust("face wanted 3", Check.INDEX, () -> x.planned(3, 0));
        Check.throwsJust("face wanted -1", Check.INDEX, () -> x.planned(-1, 5));
        Check.throwsJust("what 2", Check.ARGUMENT, () -> x.planned(0, 2));
        Check.throwsJust("what -1", Check.ARGUMENT, () -> x.planned(0, -1));
        x.clear();
        Check.throwsJust("cleared, all wrong", Check.STATE, () -> x.planned(9, 9));
        x.faces(0);
        Check.throwsJust("none wanted", Check.INDEX, () -> x.planned(0, 9));
    }

    private static void promise18PlannedOfSeveral() {
        LeafMatches x = Sample.leaves(2, 1, 2, 1, 2, 1, 2, 1, 2, 1);
        x.want(2);
        x.want(4);
        x.want(2);
        Check.is("loss", x.faces(0), 0);
        Check.is("the lesser ones first, none last", Sample.plan(x, 3), "0+1 1+2 3+1");
        LeafMatches y = Sample.leaves(3, 1, 2, 1, 1, 1, 2, 1);
        y.want(2);
        Check.is("the first of the least", y.faces(0) + " " + Sample.plan(y, 1), "0 1+1");
        y.want(1);
        Check.is("both", y.faces(0) + " " + Sample.plan(y, 2), "0 1+1 2+1");
        LeafMatches z = Sample.leaves(2, 1, 1, 1, 1, 1, 2, 1);
        z.want(3);
        z.want(2);
        Check.is("the lesser one begins, though the other could", z.faces(0) + " " + Sample.plan(z, 2), "0 0+2 3+1");
        LeafMatches w = Sample.leaves(1, 1, 1, 1, 1, 1);
        w.want(2);
        w.want(1);
        Check.is("row by row", w.faces(0) + " " + Sample.plan(w, 2), "0 0+2 2+1");
    }

    private static LeafMatches withPlan() {
        LeafMatches x = Sample.leaves(2, 1, 2, 1, 2, 1);
        x.leaf(1, 0, 1, 1);
        x.match(SLIP, 2);
        x.want(2);
        x.faces(0);
        return x;
    }

    private static void promise18PlannedSince() {
        LeafMatches kept = withPlan();
        Check.is("found", Sample.plan(kept, 1), "2+1");
        kept.pixel(2, 0, 0, 40);
        Check.is("greys leave it", Sample.plan(kept, 1), "2+1");
        Check.is("no way in another flitch", kept.faces(1), NONE);
        Check.is("the latest that found one", Sample.plan(kept, 1), "2+1");
        Check.throwsJust("reserve throws", Check.INDEX, () -> kept.reserve(9, 1));
        Check.throwsJust("want throws", Check.ARGUMENT, () -> kept.want(0));
        Check.throwsJust("leaf throws", Check.STATE, () -> kept.leaf(0, 0, 1, 1));
        Check.throwsJust("match throws", Check.STATE, () -> kept.match(BOOK, 2));
        Check.throwsJust("apart throws", Check.INDEX, () -> kept.apart(1));
        Check.is("what throws leaves it", Sample.plan(kept, 1), "2+1");
        gone("leaf", x -> x.leaf(3, 3, 1, 1));
        gone("reserve", x -> x.reserve(3, 1));
        gone("reserve for the same", x -> x.reserve(3, 0));
        gone("apart", x -> x.apart(0));
        gone("want", x -> x.want(1));
        gone("clear", x -> x.clear());
        LeafMatches matched = Sample.leaves(1, 1, 1, 1, 1, 1);
        matched.want(1);
        matched.faces(0);
        matched.match(BOOK, 2);
        Check.throwsJust("match", Check.STATE, () -> matched.planned(0, 0));
        LeafMatches broken = Sample.leaves(1, 1, 1, 1, 1, 1);
        broken.reserve(1, 1);
        broken.want(1);
        broken.faces(0);
        Check.is("a match that makes none", broken.match(BOOK, 2), NONE);
        Check.is("leaves the plan", Sample.plan(broken, 1), "0+1");
        LeafMatches other = withPlan();
        other.leaf(1, 1, 2, 1);
        other.faces(0);
        other.faces(1);
        Check.is("the latest of two", Sample.plan(other, 1), "4+1");
    }

    private interface Telling {
        void tell(LeafMatches x);
    }

    private static void gone(String what, Telling telling) {
        LeafMatches x = withPlan();
        telling.tell(x);
        Check.throwsJust("no plan since " + what, Check.STATE, () -> x.planned(0, 0));
    }
}
