import java.util.ArrayList;
import java.util.List;
import java.util.function.Consumer;
import java.util.function.Predicate;
import java.util.function.Supplier;

/**
 * Each call on benches of all kinds, with arguments about every bound and far outside: whether it
 * is refused is held against the document's words, and what is refused, or only asks, may change
 * nothing that can be told, images included.
 */
public final class RefusedCalls {
    private static final int[] ABOUT = {Integer.MIN_VALUE, Integer.MIN_VALUE + 1, -1001, -1000, -2, -1,
        0, 1, 2, 3, 4, 5, 7, 8, 9, 12, 14, 15, 16, 17, 32, 33, 254, 255, 256, 257, 999, 1000, 1001, 65536,
        Integer.MAX_VALUE - 1, Integer.MAX_VALUE};
    private static final int NOW = -1;

    private static int calls = 0;
    private static int refusals = 0;
    private static int wrong = 0;

    /** A call with its answer; a boolean counts 1 or 0. */
    private interface Call {
        int on(NetBorders x);
    }

    /** A bench that can be made anew, with all that was told of it before any call. */
    private static final class Kind {
        final String name;
        final Supplier<NetBorders> make;
        final List<List<Integer>> told = new ArrayList<>();

        Kind(String name, Consumer<NetBorders> steps) {
            this.name = name;
            this.make = () -> {
                NetBorders x = new NetBorders();
                steps.accept(x);
                return x;
            };
            for (int image = NOW; image < 4; image++) {
                told.add(tellAll(make.get(), image));
            }
        }
    }

    private static int bit(boolean answer) {
        return answer ? 1 : 0;
    }

    /** What an object tells now, or once an image is back. */
    private static List<Integer> tellAll(NetBorders x, int image) {
        List<Integer> told = new ArrayList<>();
        if (image != NOW) {
            told.add(bit(x.again(image)));
        }
        for (int what = 0; what < 8; what++) {
            told.add(x.count(what));
        }
        for (int a = 0; a < x.count(1); a++) {
            for (int what = 0; what < 5; what++) {
                told.add(x.tell(a, what));
            }
        }
        told.add(x.chosen());
        tellMembers(x, told);
        told.add(x.uncross());
        tellMembers(x, told);
        for (int a = 0; a < x.count(1); a++) {
            told.add(x.tell(a, 3));
        }
        return told;
    }

    private static void tellMembers(NetBorders x, List<Integer> told) {
        for (int k = 0; k < x.count(6); k++) {
            told.add(x.member(k, 0));
            told.add(x.member(k, 1));
        }
    }

    private static void fail(String what) {
        wrong++;
        if (wrong < 40) {
            System.out.println(what);
        }
    }

    private static void changesNothing(Kind kind, String name, Call call) {
        for (int image = NOW; image < 4; image++) {
            NetBorders x = kind.make.get();
            call.on(x);
            if (!tellAll(x, image).equals(kind.told.get(image + 1))) {
                fail(kind.name + ": " + name + " changed what is told" + (image == NOW ? "" : " of image " + image));
            }
        }
    }

    /** A call that changes something is refused with `no`, and then changes nothing. */
    private static void refuses(Kind kind, String name, int no, Predicate<NetBorders> due, Call call) {
        if (isRefused(kind, name, no, due, call)) {
            changesNothing(kind, name, call);
        }
    }

    /** A call that only asks never changes anything. */
    private static void asks(Kind kind, String name, int no, Predicate<NetBorders> due, Call call) {
        isRefused(kind, name, no, due, call);
        changesNothing(kind, name, call);
    }

    private static boolean isRefused(Kind kind, String name, int no, Predicate<NetBorders> due, Call call) {
        boolean isDue = due.test(kind.make.get());
        int answer = call.on(kind.make.get());
        if (isDue != (answer == no)) {
            fail(kind.name + ": " + name + " answered " + answer + (isDue ? ", to be refused" : ", not to be refused"));
        }
        calls++;
        refusals += bit(isDue);
        return isDue;
    }

    private static boolean within(int k, int least, int most) {
        return k >= least && k <= most;
    }

    private static boolean isNode(NetBorders x, int v) {
        return within(v, 0, x.count(0) - 1);
    }

    private static boolean isArc(NetBorders x, int a) {
        return within(a, 0, x.count(1) - 1);
    }

    private static boolean isWeight(int w) {
        return within(w, 0, 1000);
    }

    private static boolean isWhole(NetBorders x) {
        return x.count(3) == 1;
    }

    private static boolean isSide(NetBorders x, int set) {
        int sides = x.count(5);
        for (int k = 0; k < sides; k++) {
            if (x.side(k, 0) == set) {
                return true;
            }
        }
        return false;
    }

    private static int timesOf(NetBorders x, int set) {
        for (int k = 0; k < x.count(6); k++) {
            if (x.member(k, 0) == set) {
                return x.member(k, 1);
            }
        }
        return 0;
    }

    private static void withNoArgument(Kind kind) {
        refuses(kind, "dijoin()", -1, x -> !isWhole(x), NetBorders::dijoin);
        refuses(kind, "packing()", -1, x -> !isWhole(x), NetBorders::packing);
        asks(kind, "chosen()", -1, x -> false, NetBorders::chosen);
    }

    private static void withOneArgument(Kind kind, int k) {
        String of = "(" + k + ")";
        refuses(kind, "begin" + of, 0, x -> !within(k, 1, 8), x -> bit(x.begin(k)));
        refuses(kind, "drop" + of, -1, x -> !isArc(x, k), x -> x.drop(k));
        refuses(kind, "turn" + of, 0, x -> !isArc(x, k), x -> bit(x.turn(k)));
        refuses(kind, "image" + of, 0, x -> !within(k, 0, 3), x -> bit(x.image(k)));
        refuses(kind, "again" + of, 0, x -> !hasImage(kind, k), x -> bit(x.again(k)));
        asks(kind, "count" + of, -1, x -> !within(k, 0, 7), x -> x.count(k));
        asks(kind, "isDijoin" + of, -1, x -> false, x -> bit(x.isDijoin(k)));
        asks(kind, "isStrong" + of, -1, x -> false, x -> bit(x.isStrong(k)));
        changesNothing(kind, "bounds" + of, x -> x.bounds(k, true) + x.bounds(k, false));
    }

    /** By the names of the kinds: those with images have 1 and 3. */
    private static boolean hasImage(Kind kind, int k) {
        return kind.name.endsWith("with images") && (k == 1 || k == 3);
    }

    private static void withTwoArguments(Kind kind, int a, int b) {
        String of = "(" + a + ", " + b + ")";
        refuses(kind, "weigh" + of, -1, x -> !isArc(x, a) || !isWeight(b), x -> x.weigh(a, b));
        refuses(kind, "join" + of, -1, x -> !isNode(x, a) || !isNode(x, b) || a == b, x -> x.join(a, b));
        asks(kind, "tell" + of, -1, x -> !isArc(x, a) || !within(b, 0, 4), x -> x.tell(a, b));
        asks(kind, "node" + of, -1, x -> !isNode(x, a) || !within(b, 0, 3), x -> x.node(a, b));
        asks(kind, "side" + of, -1, x -> !within(a, 0, x.count(5) - 1) || !within(b, 0, 1), x -> x.side(a, b));
        asks(kind, "member" + of, -1, x -> !within(a, 0, x.count(6) - 1) || !within(b, 0, 1), x -> x.member(a, b));
        asks(kind, "cost" + of, -1, x -> isCostRefused(x, a, b), x -> x.cost(a, b));
        refuses(kind, "draw" + of, -1, x -> isDrawRefused(kind, x, a, b), x -> x.draw(a, b));
    }

    private static boolean isCostRefused(NetBorders x, int arc, int weight) {
        if (!isArc(x, arc) || !within(weight, -1, 1000) || !isWhole(x)) {
            return true;
        }
        return weight == -1 && !x.isDijoin(~(1 << arc));
    }

    private static boolean isDrawRefused(Kind kind, NetBorders x, int set, int n) {
        long times = (long) timesOf(x, set) + n;
        return !isSide(x, set) || times < 0 || times > 1000 || kind.name.startsWith("joined");
    }

    private static void withThreeArguments(Kind kind, int tail, int head) {
        for (int weight : new int[] {Integer.MIN_VALUE, -1, 0, 1000, 1001, Integer.MAX_VALUE}) {
            String name = "arc(" + tail + ", " + head + ", " + weight + ")";
            refuses(kind, name, -1, x -> x.count(1) == 16 || !isNode(x, tail) || !isNode(x, head) || !isWeight(weight),
                x -> x.arc(tail, head, weight));
        }
    }

    private static void layDiamond(NetBorders x) {
        x.begin(4);
        x.arc(0, 1, 3);
        x.arc(0, 2, 2);
        x.arc(1, 3, 4);
        x.arc(2, 3, 1);
    }

    private static void layFull(NetBorders x) {
        x.begin(8);
        for (int a = 0; a < 14; a++) {
            x.arc(a % 2, 2 + a % 6, 900 + 7 * a);
        }
        x.arc(0, 1, 1000);
        x.arc(7, 7, 0);
    }

    private static void drawCrossing(NetBorders x) {
        layDiamond(x);
        x.dijoin();
        x.draw(8, 1000);
        x.draw(10, 7);
        x.draw(12, 9);
    }

    private static void takeImages(NetBorders x) {
        drawCrossing(x);
        x.image(3);
        layFull(x);
        x.dijoin();
        x.packing();
        x.image(1);
    }

    private static List<Kind> kinds() {
        List<Kind> all = new ArrayList<>();
        all.add(new Kind("new", x -> { }));
        all.add(new Kind("eight nodes", x -> x.begin(8)));
        all.add(new Kind("diamond", RefusedCalls::layDiamond));
        all.add(new Kind("crossing", RefusedCalls::drawCrossing));
        all.add(new Kind("full, with images", RefusedCalls::takeImages));
        all.add(new Kind("joined, with images", x -> {
            takeImages(x);
            x.again(3);
            x.join(2, 0);
        }));
        all.add(new Kind("ring, with images", x -> {
            takeImages(x);
            x.begin(3);
            x.arc(0, 1, 5);
            x.arc(1, 2, 5);
            x.arc(2, 0, 5);
            x.packing();
        }));
        all.add(new Kind("fallen apart, with images", x -> {
            takeImages(x);
            x.again(3);
            x.drop(1);
            x.drop(1);
        }));
        return all;
    }

    public static void main(String[] args) {
        for (Kind kind : kinds()) {
            withNoArgument(kind);
            for (int a : ABOUT) {
                withOneArgument(kind, a);
                for (int b : ABOUT) {
                    withTwoArguments(kind, a, b);
                    if (within(a, -2, 17) && within(b, -2, 17) || a == b || a == 0 || b == 0) {
                        withThreeArguments(kind, a, b);
                    }
                }
            }
        }
        System.out.println("RefusedCalls: " + calls + " calls, " + refusals + " refused, " + wrong + " wrong");
        if (wrong != 0) {
            System.exit(1);
        }
    }
}
