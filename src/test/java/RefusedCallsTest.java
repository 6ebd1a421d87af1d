import java.util.function.Supplier;

/**
 * "A call that throws changes nothing": each refused call between two pictures that must be the same,
 * and with all that can be told afterwards as if the call had not been.
 */
public final class RefusedCallsTest {
    private static final int SLIP = LeafMatches.SLIP;
    private static final int BOOK = LeafMatches.BOOK;
    private static final int DIAMOND = LeafMatches.DIAMOND;
    private static final int[] ENDS = {Integer.MIN_VALUE, -1, Integer.MAX_VALUE};

    /** More calls than these an object need not answer. */
    private static final int MOST_CALLS = 512;

    /** busy() and full() make fewer. */
    private static final int CALLS_BEFORE = 70;

    private static int calls = 0;

    private interface Refused {
        Object call(LeafMatches x);
    }

    public static void main(String[] args) {
        ofANewObject();
        ofABusyOne();
        ofAFullOne();
        Check.done();
    }

    private static LeafMatches busy() {
        LeafMatches x = new LeafMatches();
        int[] numbers = {12, 10, 11, 13, 15, 16, 17, 20};
        for (int number : numbers) {
            x.leaf(1, number, 2, 3);
        }
        x.leaf(2, 0, 1, 1);
        for (int leaf = 0; leaf < 8; leaf++) {
            for (int y = 0; y < 3; y++) {
                x.pixel(leaf, 0, y, 20 * leaf + y);
                x.pixel(leaf, 1, y, (97 * leaf + 61 * y) % 256);
            }
        }
        x.match(BOOK, 2);
        x.match(SLIP, 2);
        x.reserve(4, 7);
        x.want(3);
        x.want(2);
        x.faces(1);
        return x;
    }

    private static LeafMatches full() {
        LeafMatches x = Sample.row(0, 0, 32, 1, 2);
        for (int i = 0; i < 8; i++) {
            x.pixel(i, 0, 1, i + 1);
            x.match(i % 3, 2);
            x.want(1 + i % 2);
        }
        x.reserve(31, 1000);
        x.faces(0);
        return x;
    }

    private static void ofANewObject() {
        Supplier<LeafMatches> state = LeafMatches::new;
        refused("new: leaf", state, Check.ARGUMENT, x -> x.leaf(0, 0, 0, 1));
        refused("new: pixel", state, Check.INDEX, x -> x.pixel(0, 0, 0, 1));
        refused("new: reserve", state, Check.INDEX, x -> x.reserve(0, 1));
        refused("new: match", state, Check.STATE, x -> x.match(SLIP, 2));
        refused("new: match of 0", state, Check.ARGUMENT, x -> x.match(SLIP, 0));
        refused("new: apart", state, Check.INDEX, x -> x.apart(0));
        refused("new: want", state, Check.ARGUMENT, x -> x.want(0));
        refused("new: faces", state, Check.ARGUMENT, x -> x.faces(4));
        refused("new: planned", state, Check.STATE, x -> x.planned(0, 0));
    }

    private static void ofABusyOne() {
        Supplier<LeafMatches> state = RefusedCallsTest::busy;
        tellingRefused(state);
        askingRefused(state);
        for (int end : ENDS) {
            String what = "busy, " + end + ": ";
            refused(what + "leaf", state, Check.ARGUMENT, x -> x.leaf(end, end, end, end));
            refused(what + "pixel", state, Check.INDEX, x -> x.pixel(end, end, end, end));
            refused(what + "reserve", state, Check.INDEX, x -> x.reserve(end, end));
            refused(what + "match", state, end > 0 ? Check.STATE : Check.ARGUMENT, x -> x.match(end, end));
            refused(what + "apart", state, Check.INDEX, x -> x.apart(end));
            refused(what + "place", state, Check.INDEX, x -> x.place(end, end, end));
            refused(what + "at", state, Check.INDEX, x -> x.at(end, end, end));
            refused(what + "about", state, Check.INDEX, x -> x.about(end, end));
            refused(what + "seam", state, Check.INDEX, x -> x.seam(end, end));
            refused(what + "sum", state, Check.INDEX, x -> x.sum(end, end, end));
            refused(what + "mirrored", state, Check.INDEX, x -> x.mirrored(end, end));
            refused(what + "balance", state, Check.INDEX, x -> x.balance(end));
            refused(what + "number", state, Check.INDEX, x -> x.number(end, end, end));
            refused(what + "want", state, Check.ARGUMENT, x -> x.want(end));
            refused(what + "faces", state, Check.ARGUMENT, x -> x.faces(end));
            refused(what + "planned", state, Check.INDEX, x -> x.planned(end, end));
        }
    }

    private static void tellingRefused(Supplier<LeafMatches> state) {
        refused("leaf: number taken", state, Check.STATE, x -> x.leaf(1, 10, 1, 1));
        refused("leaf: flitch", state, Check.ARGUMENT, x -> x.leaf(4, 14, 1, 1));
        refused("leaf: number", state, Check.ARGUMENT, x -> x.leaf(1, 1001, 1, 1));
        refused("leaf: w", state, Check.ARGUMENT, x -> x.leaf(1, 14, 13, 1));
        refused("leaf: h", state, Check.ARGUMENT, x -> x.leaf(1, 14, 1, 0));
        refused("pixel: leaf", state, Check.INDEX, x -> x.pixel(9, 0, 0, 1));
        refused("pixel: x", state, Check.INDEX, x -> x.pixel(0, 2, 0, 200));
        refused("pixel: y", state, Check.INDEX, x -> x.pixel(0, 0, 3, 200));
        refused("pixel: v", state, Check.ARGUMENT, x -> x.pixel(0, 0, 0, 256));
        refused("reserve: leaf", state, Check.INDEX, x -> x.reserve(9, 1));
        refused("reserve: used", state, Check.STATE, x -> x.reserve(0, 1));
        refused("reserve: used, for none", state, Check.STATE, x -> x.reserve(0, 0));
        refused("reserve: order", state, Check.ARGUMENT, x -> x.reserve(4, 1001));
        refused("match: no flitch", state, Check.STATE, x -> x.match(SLIP, 4));
        refused("match: kind", state, Check.ARGUMENT, x -> x.match(4, 2));
        refused("match: n", state, Check.ARGUMENT, x -> x.match(SLIP, 1));
        refused("match: n of a diamond", state, Check.ARGUMENT, x -> x.match(DIAMOND, 3));
        refused("apart: face", state, Check.INDEX, x -> x.apart(2));
        refused("want: w", state, Check.ARGUMENT, x -> x.want(101));
        refused("faces: flitch", state, Check.ARGUMENT, x -> x.faces(4));
    }

    private static void askingRefused(Supplier<LeafMatches> state) {
        refused("place: face", state, Check.INDEX, x -> x.place(2, 0, 0));
        refused("place: piece", state, Check.INDEX, x -> x.place(0, 2, 0));
        refused("place: what", state, Check.ARGUMENT, x -> x.place(0, 0, 5));
        refused("at: face", state, Check.INDEX, x -> x.at(2, 0, 0));
        refused("about: face", state, Check.INDEX, x -> x.about(2, 0));
        refused("about: what", state, Check.ARGUMENT, x -> x.about(0, 4));
        refused("seam: face", state, Check.INDEX, x -> x.seam(2, 0));
        refused("seam: seam", state, Check.INDEX, x -> x.seam(0, 1));
        refused("sum: face", state, Check.INDEX, x -> x.sum(2, 0, 0));
        refused("sum: seam", state, Check.INDEX, x -> x.sum(0, 1, 0));
        refused("sum: shift", state, Check.ARGUMENT, x -> x.sum(0, 0, 4));
        refused("mirrored: face", state, Check.INDEX, x -> x.mirrored(2, 0));
        refused("mirrored: seam", state, Check.INDEX, x -> x.mirrored(0, 1));
        refused("balance: face", state, Check.INDEX, x -> x.balance(2));
        refused("number: face", state, Check.INDEX, x -> x.number(2, 0, 0));
        refused("number: piece", state, Check.INDEX, x -> x.number(0, 2, 0));
        refused("number: i", state, Check.ARGUMENT, x -> x.number(0, 0, -1));
        refused("planned: k", state, Check.INDEX, x -> x.planned(2, 0));
        refused("planned: what", state, Check.ARGUMENT, x -> x.planned(0, 2));
    }

    private static void ofAFullOne() {
        Supplier<LeafMatches> state = RefusedCallsTest::full;
        refused("full: a 33rd leaf", state, Check.STATE, x -> x.leaf(1, 0, 1, 1));
        refused("full: a number taken", state, Check.STATE, x -> x.leaf(0, 0, 1, 1));
        refused("full: pixel of leaf 32", state, Check.INDEX, x -> x.pixel(32, 0, 0, 1));
        refused("full: reserve of leaf 32", state, Check.INDEX, x -> x.reserve(32, 1));
        refused("full: reserve of a used one", state, Check.STATE, x -> x.reserve(15, 1));
        refused("full: a ninth face", state, Check.STATE, x -> x.match(SLIP, 2));
        refused("full: a ninth diamond", state, Check.STATE, x -> x.match(DIAMOND, 4));
        refused("full: apart of face 8", state, Check.INDEX, x -> x.apart(8));
        refused("full: a ninth wanted", state, Check.STATE, x -> x.want(1));
        refused("full: planned of 8", state, Check.INDEX, x -> x.planned(8, 0));
    }

    private static void refused(String what, Supplier<LeafMatches> state, Class<?> due, Refused call) {
        LeafMatches x = state.get();
        LeafMatches other = state.get();
        calls = 0;
        String before = picture(x);
        Check.throwsJust(what, due, () -> call.call(x));
        Check.is(what + ": the same picture", picture(x), before);
        Check.is(what + ": the same afterwards", afterwards(x), afterwards(other));
        Check.is(what + ": within 512 calls", CALLS_BEFORE + calls <= MOST_CALLS, true);
    }

    /** Answers of calls that tell nothing. */
    private static String picture(LeafMatches x) {
        StringBuilder text = new StringBuilder();
        for (int face = 0; face < 9; face++) {
            pictureFace(text, x, face);
        }
        for (int k = 0; k < 9; k++) {
            int wanted = k;
            add(text, () -> x.planned(wanted, 0));
            add(text, () -> x.planned(wanted, 1));
        }
        return text.toString();
    }

    private static void pictureFace(StringBuilder text, LeafMatches x, int face) {
        add(text, () -> x.about(face, 0));
        if (text.charAt(text.length() - 2) == 'I') {
            return;
        }
        add(text, () -> x.about(face, 1));
        add(text, () -> x.about(face, 3));
        add(text, () -> x.seam(face, 0));
        add(text, () -> x.sum(face, 0, 0));
        add(text, () -> x.balance(face));
        for (int k = 0; k < 2; k++) {
            int piece = k;
            add(text, () -> x.place(face, piece, 0));
            add(text, () -> x.place(face, piece, 4));
            add(text, () -> x.at(face, piece, 1));
            add(text, () -> x.number(face, piece, 1));
        }
        text.append('\n');
    }

    /** Answers of calls that tell: orders, greys, what is wanted, and what room is left. */
    private static String afterwards(LeafMatches x) {
        StringBuilder text = new StringBuilder();
        for (int i = 0; i < 33; i++) {
            int leaf = i;
            add(text, () -> x.pixel(leaf, 0, 0, 0));
            add(text, () -> x.reserve(leaf, 7));
        }
        add(text, () -> x.want(1));
        add(text, () -> x.clear());
        add(text, () -> x.leaf(1, 14, 2, 3));
        add(text, () -> x.leaf(1, 10, 2, 3));
        add(text, () -> x.match(SLIP, 2));
        add(text, () -> x.apart(0));
        add(text, () -> x.match(SLIP, 2));
        return text.toString();
    }

    private static void add(StringBuilder text, Check.Call call) {
        calls++;
        String answer;
        try {
            answer = String.valueOf(call.run());
        } catch (IllegalStateException e) {
            answer = "S";
        } catch (IllegalArgumentException e) {
            answer = "A";
        } catch (IndexOutOfBoundsException e) {
            answer = "I";
        }
        text.append(answer).append(' ');
    }
}
