import java.util.ArrayList;
import java.util.Comparator;
import java.util.HashMap;
import java.util.List;
import java.util.Map;
import java.util.TreeMap;

/**
 * A second reading of the document, sentence by sentence and without regard to speed: greys are kept by
 * their places, plans are the least of all that there are. It answers each call as the class has to.
 */
final class Model {
    private static final int NONE = -1;
    private static final int DIAMOND = 3;
    private static final int[] TURN_OF_SHIFTS = {0, -1, 1, -2, 2, -3, 3};

    private record Spot(int x, int y) {
    }

    private static final class Leaf {
        int which;
        int flitch;
        int number;
        int w;
        int h;
        int order;
        boolean used;
        final Map<Spot, Integer> greys = new HashMap<>();
    }

    private record Face(int kind, List<Leaf> leaves) {
    }

    /** What faces get, told by the first leaves of their rows; turn has one entry for each leaf gone through. */
    private record Plan(int loss, List<Integer> turn, Map<Integer, int[]> rows) {
    }

    private final List<Leaf> leaves = new ArrayList<>();
    private final List<Face> faces = new ArrayList<>();
    private final List<Integer> wanted = new ArrayList<>();
    private Plan plan = null;

    private static void state(boolean holds) {
        if (!holds) {
            throw new IllegalStateException();
        }
    }

    private static void argument(boolean holds) {
        if (!holds) {
            throw new IllegalArgumentException();
        }
    }

    private static void index(boolean holds) {
        if (!holds) {
            throw new IndexOutOfBoundsException();
        }
    }

    private static boolean from(int least, int value, int greatest) {
        return least <= value && value <= greatest;
    }

    int leaf(int flitch, int number, int w, int h) {
        state(leaves.size() != 32);
        state(leaves.stream().noneMatch(l -> l.flitch == flitch && l.number == number));
        argument(from(0, flitch, 3) && from(0, number, 1000) && from(1, w, 12) && from(1, h, 12));
        Leaf more = new Leaf();
        more.which = leaves.size();
        more.flitch = flitch;
        more.number = number;
        more.w = w;
        more.h = h;
        for (int x = 0; x < w; x++) {
            for (int y = 0; y < h; y++) {
                more.greys.put(new Spot(x, y), 0);
            }
        }
        leaves.add(more);
        plan = null;
        return more.which;
    }

    boolean pixel(int leaf, int x, int y, int v) {
        index(from(0, leaf, leaves.size() - 1) && leaves.get(leaf).greys.containsKey(new Spot(x, y)));
        argument(from(0, v, 255));
        return leaves.get(leaf).greys.put(new Spot(x, y), v) != v;
    }

    boolean reserve(int leaf, int order) {
        index(from(0, leaf, leaves.size() - 1));
        state(!leaves.get(leaf).used);
        argument(from(0, order, 1000));
        boolean another = leaves.get(leaf).order != order;
        leaves.get(leaf).order = order;
        plan = null;
        return another;
    }

    private List<Leaf> freeOf(int flitch) {
        return leaves.stream().filter(l -> l.flitch == flitch && !l.used && l.order == 0)
                .sorted(Comparator.comparingInt(l -> l.number)).toList();
    }

    int match(int kind, int n) {
        state(faces.size() != 8);
        int flitch = 0;
        while (flitch < 4 && freeOf(flitch).size() < n) {
            flitch++;
        }
        state(flitch < 4);
        argument(from(0, kind, DIAMOND) && (kind == DIAMOND ? n == 4 : from(2, n, 8)));
        List<Leaf> first = freeOf(flitch).subList(0, n);
        for (Leaf l : first) {
            if (l.number - first.get(0).number != first.indexOf(l)) {
                return NONE;
            }
        }
        first.forEach(l -> l.used = true);
        faces.add(new Face(kind, new ArrayList<>(first)));
        plan = null;
        return faces.size() - 1;
    }

    private Face face(int which) {
        index(from(0, which, faces.size() - 1));
        return faces.get(which);
    }

    int apart(int which) {
        face(which).leaves.forEach(l -> l.used = false);
        faces.remove(which);
        plan = null;
        return faces.size();
    }

    private static boolean isMirrored(Face f, int k) {
        return switch (f.kind) {
            case 0 -> k == 1 || k == 3 || k == 5 || k == 7;
            case DIAMOND -> k == 1 || k == 3;
            default -> false;
        };
    }

    private static boolean isTurned(Face f, int k) {
        return switch (f.kind) {
            case 2 -> k == 1 || k == 3 || k == 5 || k == 7;
            case DIAMOND -> k == 2 || k == 3;
            default -> false;
        };
    }

    private static int across(Face f, int k) {
        if (f.kind == DIAMOND) {
            return k == 1 || k == 3 ? f.leaves.get(0).w : 0;
        }
        return k == 0 ? 0 : across(f, k - 1) + f.leaves.get(k - 1).w;
    }

    private static int top(Face f, int k) {
        if (f.kind == DIAMOND) {
            return k == 2 || k == 3 ? f.leaves.get(0).h : 0;
        }
        return k == 0 ? 0 : top(f, k - 1) + shift(f, k - 1);
    }

    /** The greys of piece k as it lies, from its own upper left corner. */
    private static Map<Spot, Integer> piece(Face f, int k) {
        Leaf l = f.leaves.get(k);
        Map<Spot, Integer> lies = new HashMap<>();
        l.greys.forEach((s, v) -> lies.put(
                new Spot(isMirrored(f, k) ? l.w - 1 - s.x : s.x, isTurned(f, k) ? l.h - 1 - s.y : s.y), v));
        return lies;
    }

    private static int seams(Face f) {
        return f.kind == DIAMOND ? 2 : f.leaves.size() - 1;
    }

    private static int leftOf(Face f, int seam) {
        return f.kind == DIAMOND && seam == 1 ? 2 : seam;
    }

    private static long sum(Face f, int seam, int d) {
        int k = leftOf(f, seam);
        Map<Spot, Integer> left = piece(f, k);
        Map<Spot, Integer> right = piece(f, k + 1);
        long sum = 0;
        for (int row = 0; row < f.leaves.get(k).h; row++) {
            int grey = left.get(new Spot(f.leaves.get(k).w - 1, row));
            Integer met = right.get(new Spot(0, row - d));
            sum += met == null ? 255 : Math.max(grey, met) - Math.min(grey, met);
        }
        return sum;
    }

    private static int shift(Face f, int seam) {
        Map<Long, Integer> bySum = new TreeMap<>();
        for (int d : TURN_OF_SHIFTS) {
            bySum.putIfAbsent(sum(f, seam, d), d);
        }
        return bySum.values().iterator().next();
    }

    int place(int which, int k, int what) {
        Face f = face(which);
        index(from(0, k, f.leaves.size() - 1));
        argument(from(0, what, 4));
        return List.of(f.leaves.get(k).which, isMirrored(f, k) ? 1 : 0, isTurned(f, k) ? 1 : 0, across(f, k), top(f, k))
                .get(what);
    }

    private static int leastTop(Face f) {
        int least = 0;
        for (int k = 0; k < f.leaves.size(); k++) {
            least = Math.min(least, top(f, k));
        }
        return least;
    }

    /** All that is seen: pieces are laid down from the last one on, so that the first one is on top. */
    private static Map<Spot, Integer> seen(Face f) {
        int least = leastTop(f);
        Map<Spot, Integer> seen = new HashMap<>();
        for (int k = f.leaves.size() - 1; k >= 0; k--) {
            int right = across(f, k);
            int down = top(f, k) - least;
            piece(f, k).forEach((s, v) -> seen.put(new Spot(s.x + right, s.y + down), v));
        }
        return seen;
    }

    int at(int which, int x, int y) {
        return seen(face(which)).getOrDefault(new Spot(x, y), NONE);
    }

    int about(int which, int what) {
        Face f = face(which);
        argument(from(0, what, 3));
        int across = seen(f).keySet().stream().mapToInt(Spot::x).max().getAsInt() + 1;
        int down = seen(f).keySet().stream().mapToInt(Spot::y).max().getAsInt() + 1;
        return List.of(across, down, f.leaves.size(), f.kind).get(what);
    }

    int seam(int which, int k) {
        Face f = face(which);
        index(from(0, k, seams(f) - 1));
        return shift(f, k);
    }

    long sum(int which, int k, int d) {
        Face f = face(which);
        index(from(0, k, seams(f) - 1));
        argument(from(-3, d, 3));
        return sum(f, k, d);
    }

    boolean mirrored(int which, int k) {
        return seamOf(which, k) == 0;
    }

    private long seamOf(int which, int k) {
        Face f = face(which);
        index(from(0, k, seams(f) - 1));
        return sum(f, k, 0);
    }

    boolean balance(int which) {
        Face f = face(which);
        List<Double> spots = new ArrayList<>();
        for (int k = 0; k < seams(f); k++) {
            spots.add((double) across(f, leftOf(f, k) + 1));
        }
        for (int k = 0; k < f.leaves.size(); k++) {
            spots.add(across(f, k) + f.leaves.get(k).w / 2.0);
        }
        return spots.contains(about(which, 0) / 2.0);
    }

    int number(int which, int k, int i) {
        Face f = face(which);
        index(from(0, k, f.leaves.size() - 1));
        argument(i >= 0);
        String written = "F" + (which + 1) + List.of("B", "S", "R", "D").get(f.kind) + f.leaves.get(k).number
                + (isMirrored(f, k) ? "m" : "") + (isTurned(f, k) ? "t" : "");
        return i < written.length() ? written.charAt(i) : NONE;
    }

    int want(int w) {
        state(wanted.size() != 8);
        argument(from(1, w, 100));
        wanted.add(w);
        plan = null;
        return wanted.size();
    }

    int clear() {
        int were = wanted.size();
        wanted.clear();
        plan = null;
        return were;
    }

    int faces(int flitch) {
        argument(from(0, flitch, 3));
        Plan found = leastFrom(freeOf(flitch), 0, 0, new HashMap<>());
        if (found == null) {
            return NONE;
        }
        plan = found;
        return found.loss;
    }

    /** Of the plans that give rows from this leaf on to all faces that are not given yet. */
    private Plan leastFrom(List<Leaf> row, int leaf, int given, Map<List<Integer>, Plan> known) {
        if (leaf == row.size()) {
            return given == (1 << wanted.size()) - 1 ? new Plan(0, List.of(), Map.of()) : null;
        }
        List<Integer> key = List.of(leaf, given);
        if (known.containsKey(key)) {
            return known.get(key);
        }
        int last = leaf + 1;
        Plan least = with(leastFrom(row, last, given, known), 0, List.of(wanted.size()), NONE, null);
        while (last <= row.size() && row.get(last - 1).number - row.get(leaf).number == last - 1 - leaf) {
            int wide = row.subList(leaf, last).stream().mapToInt(l -> l.w).sum();
            for (int face = 0; face < wanted.size(); face++) {
                if ((given >> face) % 2 == 0 && wide >= wanted.get(face)) {
                    Plan behind = leastFrom(row, last, given + (1 << face), known);
                    int[] gets = {row.get(leaf).which, last - leaf};
                    least = lesser(least, with(behind, wide - wanted.get(face), turnOf(face, last - leaf), face, gets));
                }
            }
            last++;
        }
        known.put(key, least);
        return least;
    }

    /** At the leaves of a row behind its first one no face begins. */
    private List<Integer> turnOf(int face, int length) {
        List<Integer> turn = new ArrayList<>();
        turn.add(face);
        while (turn.size() < length) {
            turn.add(wanted.size());
        }
        return turn;
    }

    private static Plan with(Plan behind, int loss, List<Integer> turn, int face, int[] gets) {
        if (behind == null) {
            return null;
        }
        List<Integer> whole = new ArrayList<>(turn);
        whole.addAll(behind.turn);
        Map<Integer, int[]> rows = new HashMap<>(behind.rows);
        if (gets != null) {
            rows.put(face, gets);
        }
        return new Plan(behind.loss + loss, whole, rows);
    }

    private static Plan lesser(Plan a, Plan b) {
        if (a == null || b == null) {
            return a == null ? b : a;
        }
        if (a.loss != b.loss) {
            return a.loss < b.loss ? a : b;
        }
        for (int i = 0; i < a.turn.size(); i++) {
            int order = Integer.compare(a.turn.get(i), b.turn.get(i));
            if (order != 0) {
                return order < 0 ? a : b;
            }
        }
        return a;
    }

    int planned(int k, int what) {
        state(plan != null);
        index(from(0, k, wanted.size() - 1));
        argument(from(0, what, 1));
        return plan.rows.get(k)[what];
    }
}
