import java.util.ArrayList;
import java.util.List;
import java.util.Random;
import java.util.TreeMap;

/**
 * Random runs of calls, each answer held against a model that takes the document's words one by
 * one and tries everything out, as slowly as that goes.
 */
public final class ModelRuns {
    private static int wrong = 0;
    private static int calls = 0;

    /** The document's words, without any cleverness. */
    static final class Model {
        int nodes = 1;
        List<int[]> arcs = new ArrayList<>();
        int chosen = 0;
        TreeMap<Integer, Integer> family = null;
        int familyNodes = 0;
        int[] load = new int[16];
        Model[] images = new Model[4];

        void take(Model from) {
            nodes = from.nodes;
            arcs = new ArrayList<>();
            for (int[] arc : from.arcs) {
                arcs.add(arc.clone());
            }
            chosen = from.chosen;
            family = from.family == null ? null : new TreeMap<>(from.family);
            familyNodes = from.familyNodes;
            load = from.load.clone();
        }

        boolean begin(int n) {
            if (n < 1 || n > 8) {
                return false;
            }
            nodes = n;
            arcs.clear();
            chosen = 0;
            family = null;
            load = new int[16];
            return true;
        }

        boolean isNode(int v) {
            return v >= 0 && v < nodes;
        }

        boolean isArc(int a) {
            return a >= 0 && a < arcs.size();
        }

        int arc(int t, int h, int w) {
            if (arcs.size() == 16 || !isNode(t) || !isNode(h) || w < 0 || w > 1000) {
                return -1;
            }
            arcs.add(new int[] {t, h, w});
            return arcs.size() - 1;
        }

        int drop(int a) {
            if (!isArc(a)) {
                return -1;
            }
            arcs.remove(a);
            return arcs.size();
        }

        int weigh(int a, int w) {
            if (!isArc(a) || w < 0 || w > 1000) {
                return -1;
            }
            int old = arcs.get(a)[2];
            arcs.get(a)[2] = w;
            return old;
        }

        boolean turn(int a) {
            if (!isArc(a)) {
                return false;
            }
            int[] one = arcs.get(a);
            int t = one[0];
            one[0] = one[1];
            one[1] = t;
            return true;
        }

        int join(int a, int b) {
            if (!isNode(a) || !isNode(b) || a == b) {
                return -1;
            }
            List<Integer> order = new ArrayList<>();
            for (int v = 0; v < nodes; v++) {
                if (v != b) {
                    order.add(v);
                }
            }
            for (int[] one : arcs) {
                for (int end = 0; end < 2; end++) {
                    int v = one[end] == b ? a : one[end];
                    one[end] = order.indexOf(v);
                }
            }
            nodes--;
            return nodes;
        }

        int tell(int a, int what) {
            if (!isArc(a) || what < 0 || what > 4) {
                return -1;
            }
            if (what < 3) {
                return arcs.get(a)[what];
            }
            if (what == 3) {
                return family == null ? 0 : load[a];
            }
            return (chosen & (1 << a)) != 0 ? 1 : 0;
        }

        /** Steps from node to node until nothing new comes. */
        int reach(int v, boolean forward, boolean backward) {
            int set = 1 << v;
            boolean grew = true;
            while (grew) {
                int before = set;
                for (int[] one : arcs) {
                    if (forward && (set & 1 << one[0]) != 0) {
                        set |= 1 << one[1];
                    }
                    if (backward && (set & 1 << one[1]) != 0) {
                        set |= 1 << one[0];
                    }
                }
                grew = set != before;
            }
            return set;
        }

        int part(int v) {
            for (int u = 0; u < nodes; u++) {
                if ((reach(v, true, false) & 1 << u) != 0 && (reach(u, true, false) & 1 << v) != 0) {
                    return u;
                }
            }
            throw new IllegalStateException();
        }

        int node(int v, int what) {
            if (!isNode(v)) {
                return -1;
            }
            switch (what) {
                case 0: return part(v);
                case 1: return Integer.numberOfTrailingZeros(reach(v, true, true));
                case 2: return reach(v, true, false);
                case 3: return reach(v, false, true);
                default: return -1;
            }
        }

        boolean whole() {
            return reach(0, true, true) == (1 << nodes) - 1;
        }

        int count(int what) {
            switch (what) {
                case 0: return nodes;
                case 1: return arcs.size();
                case 2: {
                    int found = 0;
                    for (int v = 0; v < nodes; v++) {
                        found += part(v) == v ? 1 : 0;
                    }
                    return found;
                }
                case 3: return whole() ? 1 : 0;
                case 4: {
                    for (int v = 0; v < nodes; v++) {
                        if (reach(v, true, false) != (1 << nodes) - 1) {
                            return 0;
                        }
                    }
                    return 1;
                }
                case 5: return sides().size();
                case 6: return family == null ? 0 : family.size();
                case 7: {
                    int made = 0;
                    for (Model image : images) {
                        made += image != null ? 1 : 0;
                    }
                    return made;
                }
                default: return -1;
            }
        }

        boolean isSide(int set) {
            if (set <= 0 || set >= (1 << nodes) - 1) {
                return false;
            }
            for (int[] one : arcs) {
                if ((set & 1 << one[0]) != 0 && (set & 1 << one[1]) == 0) {
                    return false;
                }
            }
            return true;
        }

        boolean enters(int a, int set) {
            int[] one = arcs.get(a);
            return (set & 1 << one[1]) != 0 && (set & 1 << one[0]) == 0;
        }

        int border(int set) {
            int found = 0;
            for (int a = 0; a < arcs.size(); a++) {
                found |= enters(a, set) ? 1 << a : 0;
            }
            return found;
        }

        List<Integer> sides() {
            List<Integer> found = new ArrayList<>();
            for (int set = 0; set < 1 << nodes; set++) {
                if (isSide(set)) {
                    found.add(set);
                }
            }
            return found;
        }

        int side(int k, int what) {
            List<Integer> all = sides();
            if (k < 0 || k >= all.size() || what < 0 || what > 1) {
                return -1;
            }
            return what == 0 ? all.get(k) : border(all.get(k));
        }

        int bounds(int a, boolean greatest) {
            if (!isArc(a)) {
                return 0;
            }
            List<Integer> entered = new ArrayList<>();
            for (int set : sides()) {
                if (enters(a, set)) {
                    entered.add(set);
                }
            }
            for (int one : entered) {
                boolean fits = true;
                for (int other : entered) {
                    fits &= (greatest ? other & ~one : one & ~other) == 0;
                }
                if (fits) {
                    return one;
                }
            }
            return 0;
        }

        boolean isDijoin(int set) {
            for (int one : sides()) {
                if ((border(one) & set) == 0) {
                    return false;
                }
            }
            return true;
        }

        boolean isStrong(int set) {
            Model both = new Model();
            both.take(this);
            for (int a = 0; a < arcs.size(); a++) {
                if ((set >> a & 1) != 0) {
                    both.arcs.add(new int[] {arcs.get(a)[1], arcs.get(a)[0], 0});
                }
            }
            return both.count(4) == 1;
        }

        int weightOf(int set) {
            int sum = 0;
            for (int a = 0; a < arcs.size(); a++) {
                sum += (set >> a & 1) != 0 ? arcs.get(a)[2] : 0;
            }
            return sum;
        }

        /** All dijoins among all sets of arcs. */
        List<Integer> dijoins() {
            List<Integer> borders = new ArrayList<>();
            for (int one : sides()) {
                borders.add(border(one));
            }
            List<Integer> found = new ArrayList<>();
            for (int set = 0; set < 1 << arcs.size(); set++) {
                boolean meets = true;
                for (int i = 0; i < borders.size() && meets; i++) {
                    meets = (borders.get(i) & set) != 0;
                }
                if (meets) {
                    found.add(set);
                }
            }
            return found;
        }

        int least(int without) {
            int best = -1;
            for (int set : dijoins()) {
                if ((set & without) == 0 && (best < 0 || weightOf(set) < weightOf(best))) {
                    best = set;
                }
            }
            return best;
        }

        int dijoin() {
            if (!whole()) {
                return -1;
            }
            chosen = least(0);
            return weightOf(chosen);
        }

        int cost(int a, int weight) {
            if (!isArc(a) || !whole() || weight < -1 || weight > 1000) {
                return -1;
            }
            if (weight == -1) {
                int set = least(1 << a);
                return set < 0 ? -1 : weightOf(set);
            }
            Model other = new Model();
            other.take(this);
            other.arcs.get(a)[2] = weight;
            return other.dijoin();
        }

        int packing() {
            if (!whole()) {
                return -1;
            }
            familyNodes = nodes;
            family = new TreeMap<>();
            load = new int[16];
            int[] best = greatestPacking();
            int total = 0;
            List<Integer> all = sides();
            for (int i = 0; i < best.length; i++) {
                if (best[i] > 0) {
                    family.put(all.get(i), best[i]);
                }
                total += best[i];
                for (int a = 0; a < arcs.size(); a++) {
                    load[a] += enters(a, all.get(i)) ? best[i] : 0;
                }
            }
            return total;
        }

        /**
         * The first side as often as all dijoins bear, then the second, and so on. That the least
         * dijoin tells the most times is taken from the theorem; PackingTrials does without.
         */
        int[] greatestPacking() {
            List<Integer> all = sides();
            List<Integer> joins = dijoins();
            int[] best = new int[all.size()];
            Model rest = new Model();
            rest.take(this);
            int left = rest.weightOf(rest.least(0));
            for (int i = 0; i < best.length; i++) {
                int border = border(all.get(i));
                int most = left;
                for (int a = 0; a < arcs.size(); a++) {
                    most = (border >> a & 1) != 0 ? Math.min(most, rest.arcs.get(a)[2]) : most;
                }
                for (int join : joins) {
                    int beyond = Integer.bitCount(join & border) - 1;
                    most = beyond > 0 ? Math.min(most, (rest.weightOf(join) - left) / beyond) : most;
                }
                best[i] = most;
                left -= most;
                for (int a = 0; a < arcs.size(); a++) {
                    rest.arcs.get(a)[2] -= (border >> a & 1) != 0 ? most : 0;
                }
            }
            return best;
        }

        int draw(int set, int n) {
            if (!isSide(set) || (family != null && familyNodes != nodes)) {
                return -1;
            }
            long times = (long) n + (family == null ? 0 : family.getOrDefault(set, 0));
            if (times < 0 || times > 1000) {
                return -1;
            }
            if (family == null) {
                family = new TreeMap<>();
                familyNodes = nodes;
                load = new int[16];
            }
            put(set, (int) times);
            for (int a = 0; a < arcs.size(); a++) {
                load[a] += enters(a, set) ? n : 0;
            }
            return (int) times;
        }

        void put(int set, int times) {
            if (times == 0) {
                family.remove(set);
            } else {
                family.put(set, times);
            }
        }

        boolean cross(int x, int y) {
            int all = (1 << familyNodes) - 1;
            return (x & ~y) != 0 && (y & ~x) != 0 && (x & y) != 0 && (all & ~(x | y)) != 0;
        }

        boolean uncrossOne() {
            for (int x : family.keySet()) {
                for (int y : family.keySet()) {
                    if (x < y && cross(x, y)) {
                        int t = Math.min(family.get(x), family.get(y));
                        put(x, family.get(x) - t);
                        put(y, family.get(y) - t);
                        put(x & y, family.getOrDefault(x & y, 0) + t);
                        put(x | y, family.getOrDefault(x | y, 0) + t);
                        return true;
                    }
                }
            }
            return false;
        }

        int uncross() {
            if (family == null) {
                return -1;
            }
            int steps = 0;
            while (uncrossOne()) {
                steps++;
            }
            return steps;
        }

        int member(int k, int what) {
            if (family == null || k < 0 || k >= family.size() || what < 0 || what > 1) {
                return -1;
            }
            int set = new ArrayList<>(family.keySet()).get(k);
            return what == 0 ? set : family.get(set);
        }

        boolean image(int k) {
            if (k < 0 || k > 3) {
                return false;
            }
            images[k] = new Model();
            images[k].take(this);
            return true;
        }

        boolean again(int k) {
            if (k < 0 || k > 3 || images[k] == null) {
                return false;
            }
            take(images[k]);
            return true;
        }
    }

    private static String history = "";

    private static void due(String call, long got, long want) {
        calls++;
        history += call + "=" + got + " ";
        if (got != want) {
            wrong++;
            if (wrong < 20) {
                System.out.println(call + " answered " + got + ", due is " + want + " after: " + history);
            }
        }
    }

    private static long bit(boolean answer) {
        return answer ? 1 : 0;
    }

    /** Mostly what there is, now and then a little or far beyond it. */
    private static int pick(Random random, int bound) {
        int kind = random.nextInt(40);
        if (kind == 0) {
            return -1;
        }
        if (kind == 1) {
            return bound;
        }
        if (kind == 2) {
            return random.nextInt();
        }
        return bound <= 0 ? 0 : random.nextInt(bound);
    }

    private static int weight(Random random, int most) {
        int kind = random.nextInt(50);
        if (kind == 0) {
            return -1 - random.nextInt(3);
        }
        if (kind == 1) {
            return 998 + random.nextInt(5);
        }
        return random.nextInt(most + 1);
    }

    private static int someSide(Random random, Model m) {
        List<Integer> all = m.sides();
        if (all.isEmpty() || random.nextInt(12) == 0) {
            return random.nextInt(300) - 20;
        }
        return all.get(random.nextInt(all.size()));
    }

    private static int someTimes(Random random) {
        int kind = random.nextInt(20);
        if (kind == 0) {
            return random.nextInt();
        }
        if (kind < 4) {
            return random.nextInt(2003) - 1001;
        }
        return random.nextInt(12) - 3;
    }

    private static void change(Random random, NetBorders x, Model m, int most) {
        int a = pick(random, m.arcs.size());
        int u = pick(random, m.nodes);
        int v = pick(random, m.nodes);
        int w = weight(random, most);
        switch (random.nextInt(8)) {
            case 0: case 1: case 2: case 3:
                due("arc(" + u + "," + v + "," + w + ")", x.arc(u, v, w), m.arc(u, v, w));
                break;
            case 4:
                due("drop(" + a + ")", x.drop(a), m.drop(a));
                break;
            case 5:
                due("weigh(" + a + "," + w + ")", x.weigh(a, w), m.weigh(a, w));
                break;
            case 6:
                due("turn(" + a + ")", bit(x.turn(a)), bit(m.turn(a)));
                break;
            default:
                if (random.nextInt(3) == 0) {
                    due("join(" + u + "," + v + ")", x.join(u, v), m.join(u, v));
                }
        }
    }

    private static void ask(Random random, NetBorders x, Model m) {
        int a = pick(random, m.arcs.size());
        int v = pick(random, m.nodes);
        int what = random.nextInt(8) == 0 ? random.nextInt(12) - 2 : random.nextInt(5);
        int k = pick(random, 12);
        int set = random.nextInt(3) == 0 ? random.nextInt() : random.nextInt(1 << 16);
        switch (random.nextInt(8)) {
            case 0:
                due("tell(" + a + "," + what + ")", x.tell(a, what), m.tell(a, what));
                break;
            case 1:
                due("node(" + v + "," + what + ")", x.node(v, what), m.node(v, what));
                break;
            case 2: {
                int which = random.nextInt(11) - 1;
                due("count(" + which + ")", x.count(which), m.count(which));
                break;
            }
            case 3: {
                int which = random.nextInt(6) == 0 ? what : random.nextInt(2);
                due("side(" + k + "," + which + ")", x.side(k, which), m.side(k, which));
                break;
            }
            case 4: {
                boolean greatest = random.nextBoolean();
                due("bounds(" + a + "," + greatest + ")", x.bounds(a, greatest), m.bounds(a, greatest));
                break;
            }
            case 5:
                due("isDijoin(" + set + ")", bit(x.isDijoin(set)), bit(m.isDijoin(set)));
                break;
            case 6:
                due("isStrong(" + set + ")", bit(x.isStrong(set)), bit(m.isStrong(set)));
                break;
            default: {
                int which = random.nextInt(6) == 0 ? what : random.nextInt(2);
                due("member(" + k + "," + which + ")", x.member(k, which), m.member(k, which));
            }
        }
    }

    private static void solve(Random random, NetBorders x, Model m, int most) {
        int a = pick(random, m.arcs.size());
        int w = random.nextInt(3) == 0 ? -1 : weight(random, most);
        int k = random.nextInt(14) == 0 ? random.nextInt(8) - 2 : random.nextInt(4);
        switch (random.nextInt(9)) {
            case 0:
                due("dijoin()", x.dijoin(), m.dijoin());
                break;
            case 1:
                due("chosen()", x.chosen(), m.chosen);
                break;
            case 2:
                due("cost(" + a + "," + w + ")", x.cost(a, w), m.cost(a, w));
                break;
            case 3:
                due("packing()", x.packing(), m.packing());
                break;
            case 4: case 5: {
                int set = someSide(random, m);
                int n = someTimes(random);
                due("draw(" + set + "," + n + ")", x.draw(set, n), m.draw(set, n));
                break;
            }
            case 6:
                due("uncross()", x.uncross(), m.uncross());
                break;
            case 7:
                due("image(" + k + ")", bit(x.image(k)), bit(m.image(k)));
                break;
            default:
                due("again(" + k + ")", bit(x.again(k)), bit(m.again(k)));
        }
    }

    /** Everything that can be told, at one stroke. */
    private static void askAll(NetBorders x, Model m) {
        for (int what = -1; what < 9; what++) {
            due("count(" + what + ")", x.count(what), m.count(what));
        }
        for (int a = 0; a < m.arcs.size(); a++) {
            for (int what = 0; what < 5; what++) {
                due("tell(" + a + "," + what + ")", x.tell(a, what), m.tell(a, what));
            }
        }
        int members = m.family == null ? 0 : m.family.size();
        for (int k = 0; k <= members; k++) {
            due("member(" + k + ",0)", x.member(k, 0), m.member(k, 0));
            due("member(" + k + ",1)", x.member(k, 1), m.member(k, 1));
        }
        due("chosen()", x.chosen(), m.chosen);
    }

    private static void run(long seed, int length) {
        Random random = new Random(seed);
        NetBorders x = new NetBorders();
        Model m = new Model();
        history = "seed " + seed + ": ";
        int most = new int[] {0, 1, 3, 10, 1000}[random.nextInt(5)];
        for (int i = 0; i < length; i++) {
            int kind = random.nextInt(100);
            if (i == 0 || kind < 1) {
                int n = random.nextInt(12) == 0 ? random.nextInt(14) - 3 : 2 + random.nextInt(7);
                due("begin(" + n + ")", bit(x.begin(n)), bit(m.begin(n)));
            } else if (kind < 30 || i < 8) {
                change(random, x, m, most);
            } else if (kind < 60) {
                ask(random, x, m);
            } else {
                solve(random, x, m, most);
            }
        }
        askAll(x, m);
    }

    /** Nets with many arcs, that go onward alone more often than not, so that there are sides. */
    private static void runDense(long seed) {
        Random random = new Random(seed);
        NetBorders x = new NetBorders();
        Model m = new Model();
        history = "dense seed " + seed + ": ";
        int n = 4 + random.nextInt(5);
        int kind = random.nextInt(3);
        int most = new int[] {1, 3, 1000}[random.nextInt(3)];
        due("begin(" + n + ")", bit(x.begin(n)), bit(m.begin(n)));
        for (int i = 0; i < 17; i++) {
            int u = random.nextInt(kind == 0 ? n / 2 : n);
            int v = kind == 0 ? n / 2 + random.nextInt(n - n / 2) : random.nextInt(n);
            int from = kind == 2 ? u : Math.min(u, v);
            int to = kind == 2 ? v : Math.max(u, v);
            int w = random.nextInt(most + 1);
            due("arc(" + from + "," + to + "," + w + ")", x.arc(from, to, w), m.arc(from, to, w));
        }
        due("dijoin()", x.dijoin(), m.dijoin());
        int a = random.nextInt(16);
        due("cost(" + a + ",-1)", x.cost(a, -1), m.cost(a, -1));
        int w = random.nextInt(1001);
        due("cost(" + a + "," + w + ")", x.cost(a, w), m.cost(a, w));
        due("packing()", x.packing(), m.packing());
        askAll(x, m);
        due("uncross()", x.uncross(), m.uncross());
        askAll(x, m);
    }

    /** A family of most sets there are, so that uncrossing has much to do. */
    private static void runCrossing(long seed) {
        Random random = new Random(seed);
        NetBorders x = new NetBorders();
        Model m = new Model();
        history = "crossing seed " + seed + ": ";
        int n = 3 + random.nextInt(6);
        due("begin(" + n + ")", bit(x.begin(n)), bit(m.begin(n)));
        int rare = 1 + random.nextInt(6);
        int most = new int[] {1, 7, 1000}[random.nextInt(3)];
        for (int set = 0; set < 1 << n; set++) {
            if (random.nextInt(rare) == 0) {
                int times = 1 + random.nextInt(most);
                due("draw(" + set + "," + times + ")", x.draw(set, times), m.draw(set, times));
            }
        }
        due("uncross()", x.uncross(), m.uncross());
        askAll(x, m);
    }

    public static void main(String[] args) {
        int runs = args.length > 0 ? Integer.parseInt(args[0]) : 400;
        for (int i = 0; i < runs; i++) {
            run(1000L + i, 60 + i % 60);
            runDense(2000L + i);
            runCrossing(3000L + i);
        }
        System.out.println("ModelRuns: " + calls + " calls, " + wrong + " wrong");
        if (wrong != 0) {
            System.exit(1);
        }
    }
}
