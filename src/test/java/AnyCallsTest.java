import java.util.ArrayList;
import java.util.List;
import java.util.Random;
import java.util.Set;

/**
 * Runs of 512 calls with any arguments: only the document's exceptions, never the machine's own, and
 * the calls that threw can be left out without another answer changing.
 */
public final class AnyCallsTest {
    private static final String[] NAMES = {"leaf", "pixel", "reserve", "match", "apart", "place", "at", "about", "seam",
            "sum", "mirrored", "balance", "number", "want", "clear", "faces", "planned"};
    private static final List<Set<String>> MAY_THROW = List.of(
            Set.of("S", "A"), Set.of("I", "A"), Set.of("I", "S", "A"), Set.of("S", "A"), Set.of("I"), Set.of("I", "A"),
            Set.of("I"), Set.of("I", "A"), Set.of("I"), Set.of("I", "A"), Set.of("I"), Set.of("I"), Set.of("I", "A"),
            Set.of("S", "A"), Set.of(), Set.of("A"), Set.of("S", "I", "A"));
    private static final int[] ODD = {-1, Integer.MIN_VALUE, Integer.MAX_VALUE, 1 << 16, 256, 1001, 101, 33, 13, 9};

    public static void main(String[] args) {
        Random random = new Random(11);
        for (int round = 0; round < 400; round++) {
            oneRun(random, round % 5);
        }
        Check.done();
    }

    private static void oneRun(Random random, int wildness) {
        LeafMatches x = new LeafMatches();
        List<int[]> calls = new ArrayList<>();
        List<Object> answers = new ArrayList<>();
        for (int i = 0; i < 512; i++) {
            int[] call = anyCall(random, wildness, i);
            Object answer = answerOf(x, call);
            if (answer instanceof String) {
                Check.is(NAMES[call[0]] + " throws " + answer, MAY_THROW.get(call[0]).contains(answer), true);
            } else {
                calls.add(call);
                answers.add(answer);
            }
        }
        LeafMatches y = new LeafMatches();
        for (int i = 0; i < calls.size(); i++) {
            Check.is("without those that threw: " + NAMES[calls.get(i)[0]], answerOf(y, calls.get(i)), answers.get(i));
        }
    }

    private static int[] anyCall(Random random, int wildness, int i) {
        int[] call = new int[5];
        call[0] = i < 60 ? random.nextInt(4) : random.nextInt(NAMES.length);
        for (int a = 1; a < 5; a++) {
            boolean isOdd = random.nextInt(40) < wildness;
            call[a] = isOdd ? ODD[random.nextInt(ODD.length)] : random.nextInt(random.nextBoolean() ? 4 : 12);
        }
        return call;
    }

    private static Object answerOf(LeafMatches x, int[] c) {
        try {
            return call(x, c);
        } catch (RuntimeException e) {
            if (e.getClass() == IllegalStateException.class) {
                return "S";
            }
            if (e.getClass() == IllegalArgumentException.class) {
                return "A";
            }
            return e.getClass() == IndexOutOfBoundsException.class ? "I" : e.toString();
        }
    }

    private static Object call(LeafMatches x, int[] c) {
        switch (NAMES[c[0]]) {
            case "leaf": return x.leaf(c[1] % 5, c[2], c[3], c[4]);
            case "pixel": return x.pixel(c[1], c[2], c[3], c[4]);
            case "reserve": return x.reserve(c[1], c[2]);
            case "match": return x.match(c[1], c[2]);
            case "apart": return x.apart(c[1]);
            case "place": return x.place(c[1], c[2], c[3]);
            case "at": return x.at(c[1], c[2], c[3]);
            case "about": return x.about(c[1], c[2]);
            case "seam": return x.seam(c[1], c[2]);
            case "sum": return x.sum(c[1], c[2], c[3]);
            case "mirrored": return x.mirrored(c[1], c[2]);
            case "balance": return x.balance(c[1]);
            case "number": return x.number(c[1], c[2], c[3]);
            case "want": return x.want(c[1]);
            case "clear": return x.clear();
            case "faces": return x.faces(c[1]);
            default: return x.planned(c[1], c[2]);
        }
    }
}
