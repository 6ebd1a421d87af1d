import java.io.IOException;
import java.lang.reflect.Method;
import java.nio.file.Files;
import java.nio.file.Path;

/** What README.md shows and says in its own words: its example, each call, and the choices that it names. */
public final class ReadmeTest {
    private static final int NONE = LeafMatches.NONE;
    private static final int BOOK = LeafMatches.BOOK;
    private static final int SLIP = LeafMatches.SLIP;
    private static final int DIAMOND = LeafMatches.DIAMOND;

    public static void main(String[] args) throws IOException {
        eachCallIsTold();
        theExample();
        aPlanIsGoneThoughNothingIsAnother();
        aPlanStaysWhereNothingIsTold();
        seamsOfAnUnevenDiamond();
        middlesOfAnUnevenDiamond();
        numbersThatAreWritten();
        Check.done();
    }

    private static void eachCallIsTold() throws IOException {
        String text = Files.readString(Path.of("README.md"));
        for (Method m : LeafMatches.class.getMethods()) {
            if (m.getDeclaringClass() == LeafMatches.class) {
                Check.is("README.md tells of " + m.getName(), text.contains("| `" + m.getName() + "("), true);
            }
        }
    }

    private static void theExample() {
        LeafMatches x = new LeafMatches();
        Check.is("first", x.leaf(0, 10, 4, 2), 0);
        Check.is("second", x.leaf(0, 11, 4, 2), 1);
        Check.is("pixel of the first", x.pixel(0, 3, 1, 255), true);
        Check.is("pixel of the second", x.pixel(1, 3, 0, 255), true);
        Check.is("another one of it", x.pixel(1, 3, 1, 9), true);
        Check.is("match", x.match(BOOK, 2), 0);
        Check.is("sum", x.sum(0, 0, 0), 501L);
        Check.is("seam", x.seam(0, 0), 1);
        Check.is("place", x.place(0, 1, 4), 1);
        Check.is("at", x.at(0, 4, 1), 255);
        Check.is("about", x.about(0, 1), 3);
        Check.is("number", (char) x.number(0, 1, 2), 'B');
        Check.is("written", Sample.written(x, 0, 1), "F1B11m");
        Check.is("apart", x.apart(0), 0);
        Check.is("want", x.want(7), 1);
        Check.is("faces", x.faces(0), 1);
        Check.is("planned: its first leaf", x.planned(0, 0), 0);
        Check.is("planned: how many", x.planned(0, 1), 2);
    }

    private static void aPlanIsGoneThoughNothingIsAnother() {
        LeafMatches x = Sample.row(2);
        x.want(1);
        x.faces(0);
        Check.is("reserved for none as before", x.reserve(1, 0), false);
        Check.throwsJust("gone since it was reserved", Check.STATE, () -> x.planned(0, 0));
        LeafMatches y = new LeafMatches();
        y.faces(0);
        Check.throwsJust("found, though none is wanted", Check.INDEX, () -> y.planned(0, 0));
        Check.is("none is cleared", y.clear(), 0);
        Check.throwsJust("gone since none was cleared", Check.STATE, () -> y.planned(0, 0));
    }

    private static void aPlanStaysWhereNothingIsTold() {
        LeafMatches x = new LeafMatches();
        x.leaf(0, 1, 1, 1);
        x.leaf(0, 3, 1, 1);
        x.want(1);
        x.faces(0);
        Check.is("a broken order", x.match(SLIP, 2), NONE);
        Check.is("the plan since a broken order", Sample.plan(x, 1), "0+1");
        Check.is("a flitch without leaves", x.faces(1), NONE);
        Check.is("the plan since none was found", Sample.plan(x, 1), "0+1");
        Check.throwsJust("a leaf refused", Check.STATE, () -> x.leaf(0, 3, 1, 1));
        Check.is("the plan since a refused call", Sample.plan(x, 1), "0+1");
    }

    private static boolean balancedDiamond(int... widths) {
        LeafMatches x = new LeafMatches();
        for (int i = 0; i < 4; i++) {
            x.leaf(0, i, widths[i], 1);
        }
        x.match(DIAMOND, 4);
        return x.balance(0);
    }

    /** The middle of each one is at 4. */
    private static void seamsOfAnUnevenDiamond() {
        Check.is("where 0 ends, 2 is narrower", balancedDiamond(4, 4, 1, 1), true);
        Check.is("where 0 ends, 2 is wider", balancedDiamond(4, 4, 6, 1), true);
        Check.is("where 0 ends, 3 is the widest", balancedDiamond(4, 1, 1, 4), true);
        Check.is("where 2 ends over 3", balancedDiamond(3, 5, 4, 1), false);
        Check.is("where 2 ends before 3", balancedDiamond(5, 3, 4, 1), false);
    }

    private static void middlesOfAnUnevenDiamond() {
        Check.is("the middle of 1", balancedDiamond(2, 1, 1, 3), true);
        Check.is("the middle of 2", balancedDiamond(1, 2, 9, 3), true);
        Check.is("the middle of 3", balancedDiamond(2, 3, 1, 1), true);
        Check.is("beside them all", balancedDiamond(2, 3, 1, 2), false);
    }

    private static void numbersThatAreWritten() {
        LeafMatches x = new LeafMatches();
        for (int i = 0; i < 4; i++) {
            x.leaf(0, 70 + i, 1, 1);
        }
        x.match(SLIP, 2);
        x.match(BOOK, 2);
        Check.is("face 1, leaf 3", Sample.written(x, 1, 1), "F2B73m");
        x.apart(0);
        Check.is("the same one as face 0", Sample.written(x, 0, 1), "F1B73m");
    }
}
