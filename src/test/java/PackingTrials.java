import java.util.Random;

/**
 * Small nets whose packings are all tried out, one by one: none that fits may be greater than the
 * one that packing() answers. Nothing here knows that the two numbers are the same, but for the
 * check that they are. Greater nets are spared what cannot lead to more times in all: each side
 * still to be drawn takes from what a dijoin's arcs have left.
 */
public final class PackingTrials {
    private static int wrong = 0;

    private static int sides;
    private static int[] border;
    private static int[] left;
    private static int[] times;
    private static int[] best;
    private static int bestTotal;
    private static int dijoin;

    private static void expect(boolean holds, String what) {
        if (!holds) {
            wrong++;
            System.out.println(what);
        }
    }

    /** From the most times down, side after side: the first found of the most in all is greatest. */
    private static void tryFrom(int side, int total) {
        if (total + leftOn(dijoin) <= bestTotal) {
            return;
        }
        if (side == sides) {
            if (total > bestTotal) {
                bestTotal = total;
                best = times.clone();
            }
            return;
        }
        int most = 1000;
        for (int a = 0; a < left.length; a++) {
            if ((border[side] >> a & 1) != 0) {
                most = Math.min(most, left[a]);
            }
        }
        for (int t = most; t >= 0; t--) {
            lower(border[side], t);
            times[side] = t;
            tryFrom(side + 1, total + t);
            lower(border[side], -t);
        }
        times[side] = 0;
    }

    private static int leftOn(int arcs) {
        int sum = 0;
        for (int a = 0; a < left.length; a++) {
            sum += (arcs >> a & 1) != 0 ? left[a] : 0;
        }
        return sum;
    }

    private static void lower(int arcs, int by) {
        for (int a = 0; a < left.length; a++) {
            if ((arcs >> a & 1) != 0) {
                left[a] -= by;
            }
        }
    }

    private static void trial(long seed, boolean great) {
        Random random = new Random(seed);
        NetBorders x = new NetBorders();
        int n = great ? 6 + random.nextInt(3) : 1 + random.nextInt(5);
        x.begin(n);
        int arcs = great ? n + random.nextInt(17 - n) : random.nextInt(9);
        int mostWeight = 1 + random.nextInt(great ? 6 : 4);
        StringBuilder told = new StringBuilder("seed " + seed + ", n " + n + ":");
        for (int a = 0; a < arcs; a++) {
            int t = great ? perm(random.nextInt(n / 2), n, seed) : random.nextInt(n);
            int h = great ? perm(n / 2 + random.nextInt(n - n / 2), n, seed) : random.nextInt(n);
            int w = random.nextInt(mostWeight + 1);
            x.arc(t, h, w);
            told.append(" ").append(t).append(">").append(h).append("/").append(w);
        }
        if (x.count(3) == 0) {
            expect(x.packing() == -1, told + ": packing of a net that is not whole");
            return;
        }
        left = new int[arcs];
        for (int a = 0; a < arcs; a++) {
            left[a] = x.tell(a, 2);
        }
        sides = x.count(5);
        border = new int[sides];
        for (int k = 0; k < sides; k++) {
            border[k] = x.side(k, 1);
        }
        times = new int[sides];
        bestTotal = -1;
        dijoin = great ? takeDijoin(x, told.toString()) : -1;
        tryFrom(0, 0);
        expect(x.packing() == bestTotal, told + ": packing, due is " + bestTotal);
        expect(x.dijoin() == bestTotal, told + ": dijoin, due is " + bestTotal);
        compare(x, told.toString());
    }

    /** Another number for each node, so that sources and ends are mixed. */
    private static int perm(int v, int n, long seed) {
        int step = n == 6 ? 5 : 3;
        return (int) ((v * step + seed) % n);
    }

    private static int takeDijoin(NetBorders x, String told) {
        x.dijoin();
        for (int k = 0; k < sides; k++) {
            expect((border[k] & x.chosen()) != 0, told + ": side " + k + " is not met");
        }
        return x.chosen();
    }

    private static void compare(NetBorders x, String told) {
        int member = 0;
        for (int k = 0; k < sides; k++) {
            if (best[k] > 0) {
                expect(x.member(member, 0) == x.side(k, 0), told + ": member " + member);
                expect(x.member(member, 1) == best[k], told + ": times of member " + member);
                member++;
            }
        }
        expect(x.count(6) == member, told + ": members, due is " + member);
        for (int a = 0; a < left.length; a++) {
            int load = 0;
            for (int k = 0; k < sides; k++) {
                load += (border[k] >> a & 1) != 0 ? best[k] : 0;
            }
            expect(x.tell(a, 3) == load, told + ": load of arc " + a + ", due is " + load);
        }
    }

    public static void main(String[] args) {
        int trials = args.length > 0 ? Integer.parseInt(args[0]) : 4000;
        for (int i = 0; i < trials; i++) {
            trial(i, i % 3 == 0);
        }
        System.out.println("PackingTrials: " + trials + " nets, " + wrong + " wrong");
        if (wrong != 0) {
            System.exit(1);
        }
    }
}
