import java.lang.reflect.Constructor;
import java.lang.reflect.Field;
import java.lang.reflect.Method;
import java.lang.reflect.Modifier;
import java.util.ArrayList;
import java.util.Arrays;
import java.util.Collections;
import java.util.List;
import java.util.stream.Collectors;

/** "The public face" of the document, line by line, and that the class shows nothing besides. */
public final class PublicFaceTest {
    private static final String STATE = "IllegalStateException";
    private static final String ARGUMENT = "IllegalArgumentException";
    private static final String INDEX = "IndexOutOfBoundsException";

    private static final List<String> DUE = List.of(
            "public LeafMatches()",
            "public static final int NONE = -1",
            "public static final int BOOK = 0",
            "public static final int SLIP = 1",
            "public static final int REVERSED = 2",
            "public static final int DIAMOND = 3",
            "public int leaf(int, int, int, int) throws " + STATE + ", " + ARGUMENT,
            "public boolean pixel(int, int, int, int) throws " + INDEX + ", " + ARGUMENT,
            "public boolean reserve(int, int) throws " + INDEX + ", " + STATE + ", " + ARGUMENT,
            "public int match(int, int) throws " + STATE + ", " + ARGUMENT,
            "public int apart(int) throws " + INDEX,
            "public int place(int, int, int) throws " + INDEX + ", " + ARGUMENT,
            "public int at(int, int, int) throws " + INDEX,
            "public int about(int, int) throws " + INDEX + ", " + ARGUMENT,
            "public int seam(int, int) throws " + INDEX,
            "public long sum(int, int, int) throws " + INDEX + ", " + ARGUMENT,
            "public boolean mirrored(int, int) throws " + INDEX,
            "public boolean balance(int) throws " + INDEX,
            "public int number(int, int, int) throws " + INDEX + ", " + ARGUMENT,
            "public int want(int) throws " + STATE + ", " + ARGUMENT,
            "public int clear()",
            "public int faces(int) throws " + ARGUMENT,
            "public int planned(int, int) throws " + STATE + ", " + INDEX + ", " + ARGUMENT);

    public static void main(String[] args) throws IllegalAccessException {
        theClassItself();
        eachLineOfTheFace();
        constructorsAnswerAnewEachTime();
        Check.done();
    }

    private static void theClassItself() {
        Class<?> c = LeafMatches.class;
        Check.is("the class", Modifier.toString(c.getModifiers()), "public final");
        Check.is("without a package", c.getPackageName(), "");
        Check.is("what it extends", c.getSuperclass(), Object.class);
        Check.is("what it implements", c.getInterfaces().length, 0);
    }

    private static void eachLineOfTheFace() throws IllegalAccessException {
        List<String> shown = new ArrayList<>();
        for (Constructor<?> c : LeafMatches.class.getDeclaredConstructors()) {
            shown.add(Modifier.toString(c.getModifiers()) + " LeafMatches" + taken(c.getParameterTypes()) + thrown(c.getExceptionTypes()));
        }
        for (Field f : LeafMatches.class.getDeclaredFields()) {
            if (!Modifier.isPrivate(f.getModifiers())) {
                shown.add(Modifier.toString(f.getModifiers()) + " " + f.getType() + " " + f.getName() + " = " + f.get(null));
            }
        }
        for (Method m : LeafMatches.class.getDeclaredMethods()) {
            if (!Modifier.isPrivate(m.getModifiers()) && !m.isSynthetic()) {
                shown.add(Modifier.toString(m.getModifiers()) + " " + m.getReturnType() + " " + m.getName()
                        + taken(m.getParameterTypes()) + thrown(m.getExceptionTypes()));
            }
        }
        List<String> due = new ArrayList<>(DUE);
        Collections.sort(due);
        Collections.sort(shown);
        for (String line : due) {
            Check.is(line, shown.contains(line), true);
        }
        Check.is("nothing besides", shown, due);
    }

    private static String taken(Class<?>[] types) {
        return Arrays.stream(types).map(Class::getSimpleName).collect(Collectors.joining(", ", "(", ")"));
    }

    private static String thrown(Class<?>[] types) {
        return types.length == 0 ? ""
                : Arrays.stream(types).map(Class::getSimpleName).collect(Collectors.joining(", ", " throws ", ""));
    }

    /** "No leaf of any FLITCH, no face": also where another object has some. */
    private static void constructorsAnswerAnewEachTime() {
        LeafMatches x = Sample.row(3);
        x.match(LeafMatches.SLIP, 2);
        x.want(1);
        x.faces(0);
        LeafMatches y = new LeafMatches();
        Check.throwsJust("another object's leaf", Check.INDEX, () -> y.pixel(0, 0, 0, 0));
        Check.throwsJust("another object's face", Check.INDEX, () -> y.about(0, 0));
        Check.throwsJust("another object's plan", Check.STATE, () -> y.planned(0, 0));
        Check.is("another object's wish", y.clear(), 0);
        Check.is("its own first leaf", y.leaf(0, 0, 1, 1), 0);
        Check.is("the first one keeps its wish", x.planned(0, 0), 2);
    }
}
