import java.util.Arrays;

/**
 * A bench for one-way nets: which parts can be entered but not left, which arcs meet all such
 * borders at the least weight, and how many borders can be drawn so that no arc lies in more of
 * them than it weighs. Sets of nodes and of arcs are told as bits.
 */
public final class NetBorders {
    public static final int NONE = -1;

    private static final int MOST_NODES = 8;
    private static final int MOST_ARCS = 16;
    private static final int MOST_WEIGHT = 1000;
    private static final int MOST_TIMES = 1000;
    private static final int NODE_SETS = 256;
    private static final int IMAGES = 4;
    private static final int NO_ARCS = 0;
    private static final int ALL_ARCS = 0xFFFF;
    private static final int BARRED = -1;
    private static final int NO_LIMIT = 0x7FFFFFFF;
    /* Uncrossing ends by itself, as each step makes the sum of times * nodes * nodes greater;
       families of all sets there are took some 430 steps. */
    private static final int MOST_CROSSINGS = 1000000;

    private final Bench now = new Bench();
    private final Bench[] images = new Bench[IMAGES];
    private final Paths paths = new Paths();
    private final Sides sides = new Sides();
    private final Search search = new Search();

    public NetBorders() {
        now.net.clear(1);
    }

    public boolean begin(int n) {
        if (n < 1 || n > MOST_NODES) {
            return false;
        }
        now.net.clear(n);
        now.chosen = NO_ARCS;
        now.family.putAway();
        return true;
    }

    public int arc(int tail, int head, int weight) {
        Net net = now.net;
        if (net.arcs >= MOST_ARCS || !net.hasNode(tail) || !net.hasNode(head) || !isWeight(weight)) {
            return NONE;
        }
        return net.append(tail, head, weight);
    }

    public int drop(int arc) {
        if (!now.net.hasArc(arc)) {
            return NONE;
        }
        now.net.remove(arc);
        return now.net.arcs;
    }

    public int weigh(int arc, int weight) {
        if (!now.net.hasArc(arc) || !isWeight(weight)) {
            return NONE;
        }
        int before = now.net.weight[arc];
        now.net.weight[arc] = weight;
        return before;
    }

    public boolean turn(int arc) {
        if (!now.net.hasArc(arc)) {
            return false;
        }
        int tail = now.net.tail[arc];
        now.net.tail[arc] = now.net.head[arc];
        now.net.head[arc] = tail;
        return true;
    }

    public int join(int a, int b) {
        if (!now.net.hasNode(a) || !now.net.hasNode(b) || a == b) {
            return NONE;
        }
        now.net.merge(a, b);
        return now.net.nodes;
    }

    public int tell(int arc, int what) {
        if (!now.net.hasArc(arc)) {
            return NONE;
        }
        switch (what) {
            case 0:
                return now.net.tail[arc];
            case 1:
                return now.net.head[arc];
            case 2:
                return now.net.weight[arc];
            case 3:
                return now.family.load[arc];
            case 4:
                return (now.chosen >> arc) & 1;
            default:
                return NONE;
        }
    }

    public int node(int v, int what) {
        if (!now.net.hasNode(v)) {
            return NONE;
        }
        switch (what) {
            case 0:
                paths.follow(now.net, NO_ARCS);
                return paths.part(v);
            case 1:
                paths.follow(now.net, ALL_ARCS);
                return paths.part(v);
            case 2:
                paths.follow(now.net, NO_ARCS);
                return paths.onward[v];
            case 3:
                paths.follow(now.net, NO_ARCS);
                return paths.back[v];
            default:
                return NONE;
        }
    }

    public int count(int what) {
        switch (what) {
            case 0:
                return now.net.nodes;
            case 1:
                return now.net.arcs;
            case 2:
                paths.follow(now.net, NO_ARCS);
                return paths.parts();
            case 3:
                return isWhole() ? 1 : 0;
            case 4:
                return isStrong(NO_ARCS) ? 1 : 0;
            case 5:
                sides.find(now.net);
                return sides.size;
            case 6:
                return now.family.size();
            case 7:
                return imagesMade();
            default:
                return NONE;
        }
    }

    public int side(int k, int what) {
        if (k < 0 || what < 0 || what > 1) {
            return NONE;
        }
        sides.find(now.net);
        if (k >= sides.size) {
            return NONE;
        }
        return what == 0 ? sides.bits[k] : sides.border[k];
    }

    public int bounds(int arc, boolean greatest) {
        if (!now.net.hasArc(arc)) {
            return 0;
        }
        int tail = now.net.tail[arc];
        int head = now.net.head[arc];
        paths.follow(now.net, NO_ARCS);
        if (contains(paths.onward[head], tail)) {
            return 0;
        }
        return greatest ? now.net.allNodes() & ~paths.back[tail] : paths.onward[head];
    }

    public boolean isDijoin(int arcs) {
        sides.find(now.net);
        for (int i = 0; i < sides.size; i++) {
            if ((sides.border[i] & arcs) == 0) {
                return false;
            }
        }
        return true;
    }

    public boolean isStrong(int arcs) {
        paths.follow(now.net, arcs);
        return paths.areStrong();
    }

    public int dijoin() {
        if (!isWhole()) {
            return NONE;
        }
        prepareSearch();
        search.priceWithTies(now.net);
        search.findBelow(NO_LIMIT);
        now.chosen = search.bestArcs;
        return sumOver(now.net.weight, search.bestArcs);
    }

    public int chosen() {
        return now.chosen;
    }

    public int cost(int arc, int weight) {
        if (!now.net.hasArc(arc) || (weight != BARRED && !isWeight(weight)) || !isWhole()) {
            return NONE;
        }
        prepareSearch();
        search.priceByWeight(now.net);
        search.reprice(arc, weight);
        return search.findBelow(NO_LIMIT) ? search.best : NONE;
    }

    public int packing() {
        if (!isWhole()) {
            return NONE;
        }
        prepareSearch();
        search.priceByWeight(now.net);
        search.findBelow(NO_LIMIT);
        int total = search.best;
        now.family.open(now.net.nodes);
        int left = total;
        for (int i = 0; i < sides.size && left > 0; i++) {
            int times = search.mostTimes(sides.border[i], left);
            search.spend(sides.border[i], times);
            now.family.change(sides.bits[i], sides.border[i], times);
            left -= times;
        }
        return total;
    }

    public int draw(int side, int n) {
        Family family = now.family;
        if (!now.net.isSide(side) || (family.atHand && family.nodes != now.net.nodes)) {
            return NONE;
        }
        long times = (long) family.times[side] + n;
        if (times < 0 || times > MOST_TIMES) {
            return NONE;
        }
        if (!family.atHand) {
            family.open(now.net.nodes);
        }
        family.change(side, now.net.entering(side), n);
        return family.times[side];
    }

    public int uncross() {
        if (!now.family.atHand) {
            return NONE;
        }
        return now.family.uncrossAll();
    }

    public int member(int k, int what) {
        int set = now.family.memberAt(k);
        if (set == 0) {
            return NONE;
        }
        switch (what) {
            case 0:
                return set;
            case 1:
                return now.family.times[set];
            default:
                return NONE;
        }
    }

    public boolean image(int k) {
        if (k < 0 || k >= IMAGES) {
            return false;
        }
        if (images[k] == null) {
            images[k] = new Bench();
        }
        images[k].copyFrom(now);
        return true;
    }

    public boolean again(int k) {
        if (k < 0 || k >= IMAGES || images[k] == null) {
            return false;
        }
        now.copyFrom(images[k]);
        return true;
    }

    private static boolean isWeight(int weight) {
        return weight >= 0 && weight <= MOST_WEIGHT;
    }

    private static boolean contains(int set, int k) {
        return (set >> k & 1) != 0;
    }

    private static int sumOver(int[] row, int set) {
        int sum = 0;
        for (int a = 0; a < MOST_ARCS; a++) {
            if (contains(set, a)) {
                sum += row[a];
            }
        }
        return sum;
    }

    private boolean isWhole() {
        return isStrong(ALL_ARCS);
    }

    private int imagesMade() {
        int made = 0;
        for (int k = 0; k < IMAGES; k++) {
            if (images[k] != null) {
                made++;
            }
        }
        return made;
    }

    private void prepareSearch() {
        sides.find(now.net);
        search.takeBorders(sides);
    }

    /** All that is told and that an image keeps. */
    private static final class Bench {
        final Net net = new Net();
        final Family family = new Family();
        int chosen;

        void copyFrom(Bench other) {
            net.copyFrom(other.net);
            family.copyFrom(other.family);
            chosen = other.chosen;
        }
    }

    private static final class Net {
        int nodes;
        int arcs;
        final int[] tail = new int[MOST_ARCS];
        final int[] head = new int[MOST_ARCS];
        final int[] weight = new int[MOST_ARCS];

        void clear(int n) {
            nodes = n;
            arcs = 0;
        }

        boolean hasNode(int v) {
            return v >= 0 && v < nodes;
        }

        boolean hasArc(int a) {
            return a >= 0 && a < arcs;
        }

        int allNodes() {
            return (1 << nodes) - 1;
        }

        int append(int from, int to, int heavy) {
            tail[arcs] = from;
            head[arcs] = to;
            weight[arcs] = heavy;
            arcs++;
            return arcs - 1;
        }

        void remove(int gone) {
            arcs--;
            for (int a = gone; a < arcs; a++) {
                tail[a] = tail[a + 1];
                head[a] = head[a + 1];
                weight[a] = weight[a + 1];
            }
        }

        void merge(int stays, int gone) {
            for (int a = 0; a < arcs; a++) {
                tail[a] = renumbered(tail[a], stays, gone);
                head[a] = renumbered(head[a], stays, gone);
            }
            nodes--;
        }

        private static int renumbered(int v, int stays, int gone) {
            int merged = v == gone ? stays : v;
            return merged > gone ? merged - 1 : merged;
        }

        boolean isSide(int set) {
            return set > 0 && set < allNodes() && leaving(set) == NO_ARCS;
        }

        int entering(int set) {
            int found = NO_ARCS;
            for (int a = 0; a < arcs; a++) {
                if (contains(set, head[a]) && !contains(set, tail[a])) {
                    found |= 1 << a;
                }
            }
            return found;
        }

        int leaving(int set) {
            return entering(allNodes() & ~set);
        }

        int arcsFrom(int v) {
            return arcsAt(tail, v);
        }

        int arcsTo(int v) {
            return arcsAt(head, v);
        }

        private int arcsAt(int[] ends, int v) {
            int found = NO_ARCS;
            for (int a = 0; a < arcs; a++) {
                if (ends[a] == v) {
                    found |= 1 << a;
                }
            }
            return found;
        }

        void copyFrom(Net other) {
            nodes = other.nodes;
            arcs = other.arcs;
            System.arraycopy(other.tail, 0, tail, 0, MOST_ARCS);
            System.arraycopy(other.head, 0, head, 0, MOST_ARCS);
            System.arraycopy(other.weight, 0, weight, 0, MOST_ARCS);
        }
    }

    /** Where one comes to from each node, and whence to it, with some arcs going both ways. */
    private static final class Paths {
        final int[] onward = new int[MOST_NODES];
        final int[] back = new int[MOST_NODES];
        private int nodes;

        void follow(Net net, int bothWays) {
            nodes = net.nodes;
            for (int v = 0; v < nodes; v++) {
                onward[v] = 1 << v;
            }
            for (int a = 0; a < net.arcs; a++) {
                onward[net.tail[a]] |= 1 << net.head[a];
                if (contains(bothWays, a)) {
                    onward[net.head[a]] |= 1 << net.tail[a];
                }
            }
            closeOnward();
            turnToBack();
        }

        private void closeOnward() {
            for (int through = 0; through < nodes; through++) {
                for (int v = 0; v < nodes; v++) {
                    if (contains(onward[v], through)) {
                        onward[v] |= onward[through];
                    }
                }
            }
        }

        private void turnToBack() {
            for (int v = 0; v < nodes; v++) {
                back[v] = 0;
                for (int u = 0; u < nodes; u++) {
                    back[v] |= (onward[u] >> v & 1) << u;
                }
            }
        }

        boolean areStrong() {
            int all = (1 << nodes) - 1;
            return onward[0] == all && back[0] == all;
        }

        int part(int v) {
            int together = onward[v] & back[v];
            for (int u = 0; u < v; u++) {
                if (contains(together, u)) {
                    return u;
                }
            }
            return v;
        }

        int parts() {
            int found = 0;
            for (int v = 0; v < nodes; v++) {
                if (part(v) == v) {
                    found++;
                }
            }
            return found;
        }
    }

    /** All sides in order, with their borders. */
    private static final class Sides {
        int size;
        final int[] bits = new int[NODE_SETS];
        final int[] border = new int[NODE_SETS];
        private final int[] tailWithin = new int[NODE_SETS];
        private final int[] headWithin = new int[NODE_SETS];

        void find(Net net) {
            gatherArcs(net);
            size = 0;
            int all = net.allNodes();
            for (int set = 1; set < all; set++) {
                if ((tailWithin[set] & ~headWithin[set]) == NO_ARCS) {
                    bits[size] = set;
                    border[size] = headWithin[set] & ~tailWithin[set];
                    size++;
                }
            }
        }

        /* A set has the arcs of its last node and those of the set without it, found before. */
        private void gatherArcs(Net net) {
            for (int v = 0; v < net.nodes; v++) {
                int from = net.arcsFrom(v);
                int to = net.arcsTo(v);
                int last = 1 << v;
                for (int set = 0; set < last; set++) {
                    tailWithin[last + set] = tailWithin[set] | from;
                    headWithin[last + set] = headWithin[set] | to;
                }
            }
        }
    }

    /** How many times each set of nodes is in the family at hand, and what the arcs bear of it. */
    private static final class Family {
        boolean atHand;
        int nodes;
        final int[] times = new int[NODE_SETS];
        final int[] load = new int[MOST_ARCS];

        void putAway() {
            open(0);
            atHand = false;
        }

        void open(int n) {
            atHand = true;
            nodes = n;
            Arrays.fill(times, 0);
            Arrays.fill(load, 0);
        }

        void change(int set, int border, int more) {
            times[set] += more;
            for (int a = 0; a < MOST_ARCS; a++) {
                if (contains(border, a)) {
                    load[a] += more;
                }
            }
        }

        int size() {
            int members = 0;
            for (int set = 1; set < NODE_SETS; set++) {
                if (times[set] > 0) {
                    members++;
                }
            }
            return members;
        }

        /** The bits of member k; 0 if there is none such. */
        int memberAt(int k) {
            int before = 0;
            for (int set = 1; set < NODE_SETS && before <= k; set++) {
                if (times[set] > 0) {
                    if (before == k) {
                        return set;
                    }
                    before++;
                }
            }
            return 0;
        }

        int uncrossAll() {
            int from = 1;
            for (int steps = 0; steps < MOST_CROSSINGS; steps++) {
                int lesser = firstCrossing(from);
                if (lesser == 0) {
                    return steps;
                }
                int other = crossedBy(lesser);
                uncrossPair(lesser, other);
                /* A set that crosses neither of two crosses neither what is in both nor what is in
                   any of them: of the sets before the lesser one only the new one may cross now. */
                from = lesser & other;
            }
            return MOST_CROSSINGS;
        }

        private int firstCrossing(int from) {
            for (int set = from; set < NODE_SETS; set++) {
                if (crossedBy(set) != 0) {
                    return set;
                }
            }
            return 0;
        }

        /** The first member behind a set that crosses it; 0 if there is none or it is no member. */
        private int crossedBy(int set) {
            if (times[set] == 0) {
                return 0;
            }
            for (int other = set + 1; other < NODE_SETS; other++) {
                if (times[other] > 0 && areCrossing(set, other)) {
                    return other;
                }
            }
            return 0;
        }

        private boolean areCrossing(int x, int y) {
            int both = x & y;
            int any = x | y;
            return both != 0 && both != x && both != y && any != (1 << nodes) - 1;
        }

        private void uncrossPair(int x, int y) {
            int moved = Math.min(times[x], times[y]);
            times[x] -= moved;
            times[y] -= moved;
            times[x & y] += moved;
            times[x | y] += moved;
        }

        void copyFrom(Family other) {
            atHand = other.atHand;
            nodes = other.nodes;
            System.arraycopy(other.times, 0, times, 0, NODE_SETS);
            System.arraycopy(other.load, 0, load, 0, MOST_ARCS);
        }
    }

    /**
     * Looks for the dijoin of the least price. What it finds proves a packing as well: the most
     * times in all are the least weight of a dijoin (Lucchesi and Younger).
     */
    private static final class Search {
        private static final int IMPOSSIBLE = -1;

        int best;
        int bestArcs;
        private int size;
        private int tightest;
        private int dry;
        private int barred;
        private int arcs;
        private final int[] border = new int[NODE_SETS];
        private final int[] price = new int[MOST_ARCS];
        private final int[] slack = new int[MOST_ARCS];

        /** Keeps the borders in which no other lies: who meets these meets all. */
        void takeBorders(Sides sides) {
            size = 0;
            for (int i = 0; i < sides.size; i++) {
                takeBorder(sides.border[i]);
            }
        }

        private void takeBorder(int one) {
            int kept = 0;
            for (int i = 0; i < size; i++) {
                if ((border[i] & ~one) == 0) {
                    return;
                }
            }
            for (int i = 0; i < size; i++) {
                if ((one & ~border[i]) != 0) {
                    border[kept] = border[i];
                    kept++;
                }
            }
            if (kept < NODE_SETS) {
                border[kept] = one;
                size = kept + 1;
            }
        }

        void priceByWeight(Net net) {
            arcs = net.arcs;
            barred = NO_ARCS;
            System.arraycopy(net.weight, 0, price, 0, MOST_ARCS);
        }

        /** Of several of one weight that of the least bits has the least price. */
        void priceWithTies(Net net) {
            arcs = net.arcs;
            barred = NO_ARCS;
            for (int a = 0; a < arcs; a++) {
                price[a] = (net.weight[a] << MOST_ARCS) + (1 << a);
            }
        }

        void reprice(int a, int weight) {
            if (weight == BARRED) {
                barred = 1 << a;
            } else {
                price[a] = weight;
            }
        }

        void spend(int ofBorder, int times) {
            for (int a = 0; a < arcs; a++) {
                if (contains(ofBorder, a)) {
                    price[a] -= times;
                }
            }
        }

        /** Whether there is a dijoin of a price below the limit; best and bestArcs are the least. */
        boolean findBelow(int limit) {
            best = limit;
            bestArcs = NO_ARCS;
            int free = NO_ARCS;
            for (int a = 0; a < arcs; a++) {
                if (price[a] == 0) {
                    free |= 1 << a;
                }
            }
            descend(this, free & ~barred, barred, 0, 0);
            return best < limit;
        }

        private static void descend(Search search, int taken, int closed, int spent, int depth) {
            int more = search.boundOf(taken, closed);
            if (more == IMPOSSIBLE || spent + more >= search.best || depth > MOST_ARCS) {
                return;
            }
            int branches = search.tightest;
            if (branches == NO_ARCS) {
                search.best = spent;
                search.bestArcs = taken;
                return;
            }
            int nowClosed = closed;
            for (int a = 0; a < MOST_ARCS; a++) {
                if (contains(branches, a)) {
                    descend(search, taken | 1 << a, nowClosed, spent + search.price[a], depth + 1);
                    nowClosed |= 1 << a;
                }
            }
        }

        /**
         * What must still be paid at the least: borders not yet met are drawn, one after the
         * other, as often as the prices bear. Leaves the one with the fewest open arcs.
         */
        private int boundOf(int taken, int closed) {
            int sum = 0;
            int fewest = MOST_ARCS + 1;
            tightest = NO_ARCS;
            dry = NO_ARCS;
            System.arraycopy(price, 0, slack, 0, MOST_ARCS);
            for (int i = 0; i < size; i++) {
                if ((border[i] & taken) != 0) {
                    continue;
                }
                int open = border[i] & ~closed;
                if (open == 0) {
                    return IMPOSSIBLE;
                }
                sum += drawFromSlack(open);
                if (Integer.bitCount(open) < fewest) {
                    fewest = Integer.bitCount(open);
                    tightest = open;
                }
            }
            return sum;
        }

        private int drawFromSlack(int open) {
            if ((open & dry) != NO_ARCS) {
                return 0;
            }
            int least = NO_LIMIT;
            for (int a = 0; a < arcs; a++) {
                if (contains(open, a)) {
                    least = Math.min(least, slack[a]);
                }
            }
            for (int a = 0; a < arcs; a++) {
                if (contains(open, a)) {
                    slack[a] -= least;
                    dry |= slack[a] == 0 ? 1 << a : NO_ARCS;
                }
            }
            return least;
        }

        /**
         * How often a border can be drawn so that, with the best that the prices left then allow,
         * there are still `left` times in all. Each dijoin bounds it: what its price is beyond
         * `left` must pay for the border's arcs in it but one.
         */
        int mostTimes(int ofBorder, int left) {
            int times = left;
            for (int a = 0; a < arcs; a++) {
                if (contains(ofBorder, a)) {
                    times = Math.min(times, price[a]);
                }
            }
            for (int round = 0; round < MOST_WEIGHT && times > 0; round++) {
                spend(ofBorder, times);
                boolean tooMany = findBelow(left - times);
                spend(ofBorder, -times);
                if (!tooMany) {
                    return times;
                }
                times = Math.min(times - 1, timesBy(bestArcs, ofBorder, left));
            }
            return times;
        }

        private int timesBy(int dijoin, int ofBorder, int left) {
            int meets = Integer.bitCount(dijoin & ofBorder);
            return meets < 2 ? 0 : (sumOver(price, dijoin) - left) / (meets - 1);
        }
    }
}
