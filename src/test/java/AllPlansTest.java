import java.util.Arrays;
import java.util.Random;

/** Plans against a search of all ways, longer rows than needed among them. */
public final class AllPlansTest {
    private static int[] numbers;
    private static int[] widths;
    private static int[] wanted;
    private static int leastLoss;
    private static int[] bestStart;
    private static int[] bestLength;

    public static void main(String[] args) {
        Random random = new Random(7);
        for (int round = 0; round < 4000; round++) {
            oneRound(random);
        }
        Check.done();
    }

    private static void oneRound(Random random) {
        int count = random.nextInt(9);
        numbers = random.ints(0, count + 1 + random.nextInt(4)).distinct().limit(Math.max(1, count)).sorted().toArray();
        numbers = Arrays.copyOf(numbers, Math.min(count, numbers.length));
        widths = random.ints(numbers.length, 1, 2 + random.nextInt(6)).toArray();
        wanted = random.ints(random.nextInt(5), 1, 2 + random.nextInt(10)).toArray();
        leastLoss = LeafMatches.NONE;
        bestStart = new int[wanted.length];
        bestLength = new int[wanted.length];
        search(0, new int[wanted.length], new int[wanted.length], 0);
        compare(random);
    }

    /** Goes through the ways in the document's order, so the first one of the least loss stays. */
    private static void search(int place, int[] start, int[] length, int loss) {
        if (Arrays.stream(length).allMatch(n -> n > 0)) {
            if (leastLoss == LeafMatches.NONE || loss < leastLoss) {
                leastLoss = loss;
                bestStart = start.clone();
                bestLength = length.clone();
            }
            return;
        }
        if (place == numbers.length) {
            return;
        }
        for (int face = 0; face < wanted.length; face++) {
            if (length[face] == 0) {
                searchRows(place, face, start, length, loss);
            }
        }
        search(place + 1, start, length, loss);
    }

    private static void searchRows(int place, int face, int[] start, int[] length, int loss) {
        int width = 0;
        for (int end = place; end < numbers.length; end++) {
            if (end > place && numbers[end] != numbers[end - 1] + 1) {
                break;
            }
            width += widths[end];
            if (width >= wanted[face]) {
                start[face] = place;
                length[face] = end - place + 1;
                search(end + 1, start, length, loss + width - wanted[face]);
                length[face] = 0;
            }
        }
    }

    private static void compare(Random random) {
        LeafMatches x = new LeafMatches();
        int flitch = random.nextInt(4);
        int[] leafAt = new int[numbers.length];
        int first = numbers.length == 0 ? 0 : random.nextInt(numbers.length);
        for (int i = 0; i < numbers.length; i++) {
            int place = (first + i) % numbers.length;
            leafAt[place] = x.leaf(flitch, numbers[place], widths[place], 1);
        }
        for (int w : wanted) {
            x.want(w);
        }
        String what = Arrays.toString(numbers) + Arrays.toString(widths) + Arrays.toString(wanted);
        Check.is("loss of " + what, x.faces(flitch), leastLoss);
        for (int face = 0; face < wanted.length && leastLoss != LeafMatches.NONE; face++) {
            Check.is("first of " + face + " of " + what, x.planned(face, 0), leafAt[bestStart[face]]);
            Check.is("length of " + face + " of " + what, x.planned(face, 1), bestLength[face]);
        }
    }
}
