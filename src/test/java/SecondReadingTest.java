import java.lang.reflect.InvocationTargetException;
import java.lang.reflect.Method;
import java.util.Arrays;
import java.util.HashMap;
import java.util.Map;
import java.util.Random;
import java.util.function.IntSupplier;

/** Runs of 512 calls, each answered by the class and by Model, which reads the document a second time. */
public final class SecondReadingTest {
    private static final int CALLS = 512;
    private static final int CALLS_TO_BEGIN = 300;
    private static final int[] ODD = {Integer.MIN_VALUE, -4, -1, 4, 5, 8, 9, 12, 13, 32, 100, 101, 255, 256, 1000, 1001,
            Integer.MAX_VALUE};

    /** Each as often as it is to be called among the others. */
    private static final String[] NAMES = ("leaf pixel pixel reserve match match match apart place place at at about seam"
            + " seam sum mirrored balance number want want clear faces faces planned planned").split(" ");

    private static final Map<String, Method> OF_CLASS = new HashMap<>();
    private static final Map<String, Method> OF_MODEL = new HashMap<>();

    private static Random random;
    private static LeafMatches x;
    private static Model y;
    private static int calls;
    private static int leaves;
    private static int widest;
    private static int highest;

    /** How far the figure climbs from leaf to leaf: the shift that is found, unless greys are strewn in. */
    private static int slant;

    public static void main(String[] args) throws ReflectiveOperationException {
        for (Method m : LeafMatches.class.getMethods()) {
            if (m.getDeclaringClass() == LeafMatches.class) {
                OF_CLASS.put(m.getName(), m);
                OF_MODEL.put(m.getName(), Model.class.getDeclaredMethod(m.getName(), m.getParameterTypes()));
            }
        }
        for (int run = 0; run < 400; run++) {
            random = new Random(run);
            oneRun("run " + run);
        }
        Check.done();
    }

    private static void oneRun(String run) throws ReflectiveOperationException {
        x = new LeafMatches();
        y = new Model();
        calls = 0;
        leaves = 2 + random.nextInt(20);
        widest = 1 + random.nextInt(random.nextBoolean() ? 3 : 12);
        highest = 1 + random.nextInt(12);
        slant = random.nextInt(9) - 4;
        begin(run);
        String name = "clear";
        while (calls < CALLS) {
            boolean goesOn = (name.equals("faces") || name.equals("planned")) && random.nextInt(3) > 0;
            name = goesOn ? "planned" : NAMES[random.nextInt(NAMES.length)];
            both(run, name, anyArguments(name));
        }
    }

    /** Leaves of mostly one flitch in any order of their numbers, with their edges painted. */
    private static void begin(String run) throws ReflectiveOperationException {
        int first = random.nextInt(1001 - leaves);
        int step = random.nextBoolean() ? 1 : leaves - 1;
        for (int i = 0; i < leaves; i++) {
            int w = 1 + random.nextInt(widest);
            int h = highest - random.nextInt(Math.min(3, highest));
            int gap = random.nextInt(60) == 0 ? 30 : 0;
            int flitch = random.nextInt(8) == 0 ? 2 : 1;
            both(run, "leaf", flitch, first + i * step % leaves + gap, w, h);
            for (int row = 0; row < h && calls + 2 < CALLS_TO_BEGIN; row++) {
                both(run, "pixel", i, 0, row, figure(i, row));
                both(run, "pixel", i, w - 1, row, figure(i, row));
            }
        }
    }

    private static int figure(int leaf, int row) {
        int spot = Math.floorMod(row + slant * leaf, 31);
        return random.nextInt(30) == 0 ? random.nextInt(256) : 255 * (0x5dc6f950 >> spot & 1);
    }

    private static void both(String run, String name, Object... with) throws ReflectiveOperationException {
        calls++;
        String what = run + ", call " + calls + ": " + name + Arrays.toString(with);
        Check.is(what, answer(OF_CLASS.get(name), x, with), answer(OF_MODEL.get(name), y, with));
    }

    private static Object answer(Method m, Object on, Object[] with) throws ReflectiveOperationException {
        try {
            return m.invoke(on, with);
        } catch (InvocationTargetException e) {
            return e.getCause().getClass();
        }
    }

    private static Object[] anyArguments(String name) {
        switch (name) {
            case "leaf": return all(() -> 2 + random.nextInt(2), below(1001), from1(widest), from1(highest));
            case "pixel": return all(below(leaves), below(widest), below(highest), below(256));
            case "reserve": return all(below(leaves), () -> random.nextInt(4) / 3);
            case "match": return all(below(4), () -> 2 + random.nextInt(3));
            case "place": return all(below(3), below(5), below(5));
            case "at": return all(below(3), below(4 * widest), below(highest + 4));
            case "about": return all(below(3), below(4));
            case "sum": return all(below(3), below(4), () -> random.nextInt(7) - 3);
            case "number": return all(below(3), below(4), below(9));
            case "want": return all(from1(2 * widest));
            case "planned": return all(below(4), below(2));
            case "seam":
            case "mirrored": return all(below(3), below(4));
            case "clear": return all();
            case "faces": return all(() -> random.nextInt(4) == 0 ? random.nextInt(4) : 1);
            default: return all(below(4));
        }
    }

    private static IntSupplier below(int bound) {
        return () -> random.nextInt(bound);
    }

    private static IntSupplier from1(int greatest) {
        return () -> 1 + random.nextInt(greatest);
    }

    private static Object[] all(IntSupplier... each) {
        Object[] with = new Object[each.length];
        for (int i = 0; i < each.length; i++) {
            with[i] = random.nextInt(60) == 0 ? ODD[random.nextInt(ODD.length)] : each[i].getAsInt();
        }
        return with;
    }
}
