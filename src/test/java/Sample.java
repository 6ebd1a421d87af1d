/** What the tests begin with, and answers put together to one text. */
final class Sample {
    static final int NONE = LeafMatches.NONE;

    /** Unlike itself at every other shift, so that just one shift has the least sum. */
    private static final String FIGURE = "1000010010110011111000110111010";

    private Sample() {
    }

    /** Leaves of flitch 0 with numbers from 0 on, of these widths and heights in turn. */
    static LeafMatches leaves(int... widthsAndHeights) {
        LeafMatches x = new LeafMatches();
        for (int i = 0; i + 1 < widthsAndHeights.length; i += 2) {
            x.leaf(0, i / 2, widthsAndHeights[i], widthsAndHeights[i + 1]);
        }
        return x;
    }

    /** n leaves of a flitch, each w wide and h high, with numbers from first on. */
    static LeafMatches row(int flitch, int first, int n, int w, int h) {
        LeafMatches x = new LeafMatches();
        for (int i = 0; i < n; i++) {
            x.leaf(flitch, first + i, w, h);
        }
        return x;
    }

    /** n leaves of flitch 0, of one column and one row. */
    static LeafMatches row(int n) {
        return row(0, 0, n, 1, 1);
    }

    static void column(LeafMatches x, int leaf, int column, int... greys) {
        for (int y = 0; y < greys.length; y++) {
            x.pixel(leaf, column, y, greys[y]);
        }
    }

    static String places(LeafMatches x, int face, int what) {
        StringBuilder text = new StringBuilder();
        for (int k = 0; k < x.about(face, 2); k++) {
            text.append(x.place(face, k, what)).append(' ');
        }
        return text.toString().trim();
    }

    static String plan(LeafMatches x, int wanted) {
        StringBuilder text = new StringBuilder();
        for (int k = 0; k < wanted; k++) {
            text.append(x.planned(k, 0)).append('+').append(x.planned(k, 1)).append(' ');
        }
        return text.toString().trim();
    }

    static String written(LeafMatches x, int face, int k) {
        StringBuilder text = new StringBuilder();
        for (int i = 0; i < 20 && x.number(face, k, i) != NONE; i++) {
            text.append((char) x.number(face, k, i));
        }
        return text.toString();
    }

    /** A slip of n leaves, 12 rows each, all of whose seams have this shift. */
    static LeafMatches stairs(int n, int shift) {
        LeafMatches x = row(0, 0, n, 1, 12);
        for (int i = 0; i < n; i++) {
            for (int y = 0; y < 12; y++) {
                int spot = Math.floorMod(y + shift * i, FIGURE.length());
                x.pixel(i, 0, y, 255 * (FIGURE.charAt(spot) - '0'));
            }
        }
        x.match(LeafMatches.SLIP, n);
        return x;
    }
}
