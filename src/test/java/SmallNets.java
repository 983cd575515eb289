import java.util.ArrayList;
import java.util.List;
import java.util.Map;
import java.util.TreeMap;

/**
 * Every net of few nodes and arcs, one after the other: all that can be asked of it is held against
 * the document's terms, taken word by word over all sets of nodes, of arcs, and over all packings.
 * No theorem is used: neither that the two numbers are the same, nor that a dijoin, gone both ways,
 * makes a net strong, nor that uncrossing leaves the loads; these are found to hold.
 */
public final class SmallNets {
    private static int nets = 0;
    private static int wrong = 0;

    private static int nodes;
    private static int[] tail;
    private static int[] head;
    private static int[] weight;

    private static NetBorders bench;
    private static List<Integer> sides;
    private static int[] borders;
    private static int[] times;
    private static int[] greatest;
    private static int greatestTotal;

    private static void due(String call, long got, long want) {
        if (got == want) {
            return;
        }
        wrong++;
        if (wrong < 20) {
            StringBuilder told = new StringBuilder("net of " + nodes + " nodes, arcs");
            for (int a = 0; a < tail.length; a++) {
                told.append(" " + tail[a] + ">" + head[a] + ":" + weight[a]);
            }
            System.out.println(told + ": " + call + " answered " + got + ", due is " + want);
        }
    }

    private static void due(String call, boolean got, boolean want) {
        due(call, got ? 1 : 0, want ? 1 : 0);
    }

    private static boolean has(int set, int k) {
        return (set >> k & 1) != 0;
    }

    private static int all() {
        return (1 << nodes) - 1;
    }

    /** Nodes to which one comes from v, by the arcs' way, and against it along those of a set. */
    private static int from(int v, int against) {
        int found = 1 << v;
        for (int round = 0; round < nodes; round++) {
            for (int a = 0; a < tail.length; a++) {
                found |= has(found, tail[a]) ? 1 << head[a] : 0;
                found |= has(found, head[a]) && has(against, a) ? 1 << tail[a] : 0;
            }
        }
        return found;
    }

    private static boolean comesFromEachToEach(int set, int against) {
        for (int v = 0; v < nodes; v++) {
            if (has(set, v) && (set & ~from(v, against)) != 0) {
                return false;
            }
        }
        return true;
    }

    /** The least node of the greatest set with v in which one comes from each to each. */
    private static int part(int v) {
        int best = 1 << v;
        for (int set = 1; set <= all(); set++) {
            boolean more = Integer.bitCount(set) > Integer.bitCount(best);
            best = has(set, v) && more && comesFromEachToEach(set, 0) ? set : best;
        }
        return Integer.numberOfTrailingZeros(best);
    }

    private static boolean enters(int a, int set) {
        return has(set, head[a]) && !has(set, tail[a]);
    }

    private static boolean leaves(int a, int set) {
        return has(set, tail[a]) && !has(set, head[a]);
    }

    private static boolean isSide(int set) {
        boolean stays = true;
        for (int a = 0; a < tail.length; a++) {
            stays &= !leaves(a, set);
        }
        return stays && set != 0 && set != all();
    }

    private static int border(int set) {
        int found = 0;
        for (int a = 0; a < tail.length; a++) {
            found |= enters(a, set) ? 1 << a : 0;
        }
        return found;
    }

    private static void findSides() {
        sides = new ArrayList<>();
        for (int set = 0; set <= all(); set++) {
            if (isSide(set)) {
                sides.add(set);
            }
        }
        borders = new int[sides.size()];
        for (int i = 0; i < borders.length; i++) {
            borders[i] = border(sides.get(i));
        }
    }

    private static boolean meetsAll(int arcs) {
        for (int one : borders) {
            if ((one & arcs) == 0) {
                return false;
            }
        }
        return true;
    }

    private static int weightOf(int arcs) {
        int sum = 0;
        for (int a = 0; a < tail.length; a++) {
            sum += has(arcs, a) ? weight[a] : 0;
        }
        return sum;
    }

    /** The least dijoin without some arcs; -1 if there is none. */
    private static int least(int without) {
        int best = -1;
        for (int set = 0; set < 1 << tail.length; set++) {
            if ((set & without) == 0 && meetsAll(set) && (best < 0 || weightOf(set) < weightOf(best))) {
                best = set;
            }
        }
        return best;
    }

    private static boolean fits() {
        for (int a = 0; a < tail.length; a++) {
            int load = 0;
            for (int i = 0; i < borders.length; i++) {
                load += has(borders[i], a) ? times[i] : 0;
            }
            if (load > weight[a]) {
                return false;
            }
        }
        return true;
    }

    /** From the most times down, side after side: the first found of the most in all is greatest. */
    private static void tryPackings(int side, int total) {
        if (side == borders.length) {
            if (total > greatestTotal) {
                greatestTotal = total;
                greatest = times.clone();
            }
            return;
        }
        for (times[side] = 3; times[side] > 0; times[side]--) {
            if (fits()) {
                tryPackings(side + 1, total + times[side]);
            }
        }
        tryPackings(side + 1, total);
    }

    private static void lay() {
        bench = new NetBorders();
        due("begin", bench.begin(nodes), true);
        for (int a = 0; a < tail.length; a++) {
            due("arc", bench.arc(tail[a], head[a], weight[a]), a);
        }
    }

    private static void askNodes() {
        int parts = 0;
        for (int v = 0; v < nodes; v++) {
            parts += part(v) == v ? 1 : 0;
            int to = 0;
            for (int u = 0; u < nodes; u++) {
                to |= has(from(u, 0), v) ? 1 << u : 0;
            }
            due("node(" + v + ", 0)", bench.node(v, 0), part(v));
            due("node(" + v + ", 1)", bench.node(v, 1), Integer.numberOfTrailingZeros(from(v, -1)));
            due("node(" + v + ", 2)", bench.node(v, 2), from(v, 0));
            due("node(" + v + ", 3)", bench.node(v, 3), to);
        }
        due("count(0)", bench.count(0), nodes);
        due("count(1)", bench.count(1), tail.length);
        due("count(2)", bench.count(2), parts);
        due("count(3)", bench.count(3), comesFromEachToEach(all(), -1) ? 1 : 0);
        due("count(4)", bench.count(4), comesFromEachToEach(all(), 0) ? 1 : 0);
    }

    private static void askSides() {
        due("count(5)", bench.count(5), borders.length);
        for (int k = 0; k < borders.length; k++) {
            due("side(" + k + ", 0)", bench.side(k, 0), sides.get(k));
            due("side(" + k + ", 1)", bench.side(k, 1), borders[k]);
        }
        due("side behind the last", bench.side(borders.length, 0), -1);
        for (int a = 0; a < tail.length; a++) {
            int inAll = all();
            int inAny = 0;
            for (int k = 0; k < borders.length; k++) {
                inAll &= has(borders[k], a) ? sides.get(k) : all();
                inAny |= has(borders[k], a) ? sides.get(k) : 0;
            }
            due("bounds(" + a + ", false)", bench.bounds(a, false), inAny == 0 ? 0 : inAll);
            due("bounds(" + a + ", true)", bench.bounds(a, true), inAny);
        }
    }

    private static void askDijoins() {
        for (int set = 0; set < 1 << tail.length; set++) {
            due("isDijoin(" + set + ")", bench.isDijoin(set), meetsAll(set));
            due("isStrong(" + set + ")", bench.isStrong(set), comesFromEachToEach(all(), set));
        }
        boolean whole = comesFromEachToEach(all(), -1);
        int set = whole ? least(0) : 0;
        due("dijoin()", bench.dijoin(), whole ? weightOf(set) : -1);
        due("chosen()", bench.chosen(), set);
        for (int a = 0; a < tail.length; a++) {
            due("tell(" + a + ", 4)", bench.tell(a, 4), set >> a & 1);
            int kept = weight[a];
            int without = least(1 << a);
            due("cost(" + a + ", -1)", bench.cost(a, -1), whole && without >= 0 ? weightOf(without) : -1);
            for (int w = 0; w <= 3; w++) {
                weight[a] = w;
                int want = whole ? weightOf(least(0)) : -1;
                weight[a] = kept;
                due("cost(" + a + ", " + w + ")", bench.cost(a, w), want);
            }
        }
    }

    private static void askFamily(String when, Map<Integer, Integer> family) {
        due(when + ": count(6)", bench.count(6), family.size());
        int k = 0;
        int[] load = new int[tail.length];
        for (Map.Entry<Integer, Integer> member : family.entrySet()) {
            due(when + ": member(" + k + ", 0)", bench.member(k, 0), member.getKey());
            due(when + ": member(" + k + ", 1)", bench.member(k, 1), member.getValue());
            for (int a = 0; a < tail.length; a++) {
                load[a] += enters(a, member.getKey()) ? member.getValue() : 0;
            }
            k++;
        }
        due(when + ": member behind the last", bench.member(k, 0), -1);
        for (int a = 0; a < tail.length; a++) {
            due(when + ": tell(" + a + ", 3)", bench.tell(a, 3), load[a]);
        }
    }

    private static boolean cross(int x, int y) {
        boolean within = (x & ~y) == 0 || (y & ~x) == 0;
        return !within && (x & y) != 0 && (all() & ~x & ~y) != 0;
    }

    private static void move(Map<Integer, Integer> family, int set, int more) {
        int left = family.getOrDefault(set, 0) + more;
        family.put(set, left);
        if (left == 0) {
            family.remove(set);
        }
    }

    private static boolean uncrossFirst(Map<Integer, Integer> family) {
        for (int x = 1; x < all(); x++) {
            for (int y = x + 1; y < all(); y++) {
                if (family.containsKey(x) && family.containsKey(y) && cross(x, y)) {
                    int rarer = Math.min(family.get(x), family.get(y));
                    move(family, x, -rarer);
                    move(family, y, -rarer);
                    move(family, x & y, rarer);
                    move(family, x | y, rarer);
                    return true;
                }
            }
        }
        return false;
    }

    private static void askUncross(String when, Map<Integer, Integer> family) {
        int steps = 0;
        while (uncrossFirst(family)) {
            steps++;
        }
        due(when + ": uncross()", bench.uncross(), steps);
        askFamily(when + ", uncrossed", family);
    }

    private static void askPacking() {
        if (!comesFromEachToEach(all(), -1)) {
            due("packing()", bench.packing(), -1);
            due("uncross() without a family", bench.uncross(), -1);
            return;
        }
        times = new int[borders.length];
        greatestTotal = -1;
        tryPackings(0, 0);
        Map<Integer, Integer> family = new TreeMap<>();
        for (int k = 0; k < borders.length; k++) {
            move(family, sides.get(k), greatest[k]);
        }
        due("packing()", bench.packing(), greatestTotal);
        due("the two numbers", bench.dijoin(), greatestTotal);
        askFamily("packed", family);
        askUncross("packed", family);
    }

    private static void askDrawn() {
        lay();
        Map<Integer, Integer> family = new TreeMap<>();
        for (int k = borders.length - 1; k >= 0; k--) {
            due("draw of side " + k, bench.draw(sides.get(k), 1 + k % 3), 1 + k % 3);
            move(family, sides.get(k), 1 + k % 3);
        }
        if (borders.length > 0) {
            askFamily("drawn", family);
            askUncross("drawn", family);
        }
    }

    private static void askAll() {
        nets++;
        lay();
        findSides();
        askNodes();
        askSides();
        askDijoins();
        askPacking();
        askDrawn();
    }

    /** Arc by arc all tails, heads and weights from one to another. */
    private static void layFrom(int a, int lightest, int heaviest) {
        if (a == tail.length) {
            askAll();
            return;
        }
        for (int ends = 0; ends < nodes * nodes; ends++) {
            tail[a] = ends / nodes;
            head[a] = ends % nodes;
            for (int w = lightest; w <= heaviest; w++) {
                weight[a] = w;
                layFrom(a + 1, lightest, heaviest);
            }
        }
    }

    private static void every(int ofNodes, int arcs, int lightest, int heaviest) {
        nodes = ofNodes;
        tail = new int[arcs];
        head = new int[arcs];
        weight = new int[arcs];
        layFrom(0, lightest, heaviest);
    }

    public static void main(String[] args) {
        if (args.length == 4) {
            every(Integer.parseInt(args[0]), Integer.parseInt(args[1]), Integer.parseInt(args[2]),
                Integer.parseInt(args[3]));
        } else {
            every(1, 0, 0, 0);
            every(1, 2, 0, 2);
            every(2, 1, 0, 3);
            every(2, 3, 0, 2);
            every(3, 2, 0, 3);
            every(3, 3, 0, 1);
            every(3, 4, 1, 1);
            every(4, 3, 1, 1);
        }
        System.out.println("SmallNets: " + nets + " nets, " + wrong + " wrong");
        if (wrong != 0) {
            System.exit(1);
        }
    }
}
