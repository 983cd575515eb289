import java.util.List;
import java.util.function.Supplier;

/**
 * The document's boundary cases, sentence by sentence: the last good value and the first bad one
 * at each bound, the empty net and the full one, and ints far outside. RefusedCalls holds that what
 * is refused changes nothing.
 */
public final class BoundaryTests {
    private static final int LOW = Integer.MIN_VALUE;
    private static final int HIGH = Integer.MAX_VALUE;

    /** Bits shifted by 32 or by 256 wrap around to good ones: a test must not fall for that. */
    private static final int[] NEVER_A_NUMBER = {-1, -2, 32, 33, 256, 257, 65536, LOW, LOW + 1, HIGH - 1, HIGH};

    private static int checks = 0;
    private static int wrong = 0;
    private static String sentence = "";

    private static void says(String words) {
        sentence = words;
    }

    private static void due(String call, long got, long want) {
        checks++;
        if (got != want) {
            wrong++;
            System.out.println(sentence + " | " + call + " answered " + got + ", due is " + want);
        }
    }

    private static void due(String call, boolean got, boolean want) {
        due(call, got ? 1 : 0, want ? 1 : 0);
    }

    private static NetBorders net(int nodes, int... arcs) {
        NetBorders x = new NetBorders();
        due("begin(" + nodes + ")", x.begin(nodes), true);
        for (int i = 0; i < arcs.length; i += 3) {
            due("arc while a net is laid", x.arc(arcs[i], arcs[i + 1], arcs[i + 2]), i / 3);
        }
        return x;
    }

    /** 0 to 3 by way of 1 (arcs 0, 2) or of 2 (arcs 1, 3); sides 8, 10, 12, 14. */
    private static NetBorders diamond() {
        return net(4, 0, 1, 3, 0, 2, 2, 1, 3, 4, 2, 3, 1);
    }

    private static NetBorders ring() {
        return net(3, 0, 1, 5, 1, 2, 6, 2, 0, 7);
    }

    private static NetBorders apart() {
        return net(4, 0, 1, 5, 2, 3, 6);
    }

    /** Eight nodes and sixteen arcs: 0 to each other node twice, arc 14 from 1 to 2, 15 from 7 to 7. */
    private static NetBorders fullNet() {
        NetBorders x = net(8);
        for (int a = 0; a < 14; a++) {
            x.arc(0, 1 + a % 7, 10 + a);
        }
        x.arc(1, 2, 0);
        x.arc(7, 7, 1000);
        return x;
    }

    private static void family(NetBorders x, int... setsAndTimes) {
        int members = setsAndTimes.length / 2;
        due("count(6)", x.count(6), members);
        for (int k = 0; k < members; k++) {
            due("member(" + k + ", 0)", x.member(k, 0), setsAndTimes[2 * k]);
            due("member(" + k + ", 1)", x.member(k, 1), setsAndTimes[2 * k + 1]);
        }
        due("member(" + members + ", 0)", x.member(members, 0), -1);
        due("member(" + members + ", 1)", x.member(members, 1), -1);
    }

    private static void loads(NetBorders x, int... want) {
        for (int a = 0; a < want.length; a++) {
            due("tell(" + a + ", 3)", x.tell(a, 3), want[a]);
        }
    }

    private static void arcIs(NetBorders x, int arc, int tail, int head, int weight) {
        due("tell(" + arc + ", 0)", x.tell(arc, 0), tail);
        due("tell(" + arc + ", 1)", x.tell(arc, 1), head);
        due("tell(" + arc + ", 2)", x.tell(arc, 2), weight);
    }

    private static void sides(NetBorders x, int... bits) {
        due("count(5)", x.count(5), bits.length);
        for (int k = 0; k < bits.length; k++) {
            due("side(" + k + ", 0)", x.side(k, 0), bits[k]);
        }
        due("side behind the last", x.side(bits.length, 0), -1);
    }

    // Terms

    private static void termsNet() {
        says("Terms: TAIL and HEAD may be one, several ARCS may go alike");
        NetBorders x = net(2, 1, 1, 4, 0, 1, 5, 0, 1, 5);
        arcIs(x, 0, 1, 1, 4);
        arcIs(x, 2, 0, 1, 5);
        due("count(1)", x.count(1), 3);
        due("side(0, 1): both arcs alike, not the one of one node", x.side(0, 1), 6);
    }

    private static void termsWholeAndStrong() {
        says("Terms: WHOLE, whichever way the ARCS go");
        due("count(3) of one node", net(1).count(3), 1);
        due("count(3) of two nodes without arcs", net(2).count(3), 0);
        due("count(3) of two nodes, each with itself", net(2, 0, 0, 1, 1, 1, 1).count(3), 0);
        due("count(3) of arcs against each other", net(3, 0, 1, 1, 2, 1, 1).count(3), 1);
        due("count(3) with one node apart", net(4, 0, 1, 1, 1, 2, 1, 2, 0, 1).count(3), 0);
        NetBorders way = net(8);
        for (int v = 0; v < 7; v++) {
            due("count(3) of eight nodes with too few arcs", way.count(3), 0);
            way.arc(v % 2 == 0 ? v : v + 1, v % 2 == 0 ? v + 1 : v, 1);
        }
        due("count(3) of eight nodes with seven arcs", way.count(3), 1);
        NetBorders last = net(2);
        for (int a = 0; a < 15; a++) {
            last.arc(1, 1, 0);
        }
        due("count(3) without the sixteenth arc", last.count(3), 0);
        last.arc(0, 1, 0);
        due("count(3) by the sixteenth arc", last.count(3), 1);
        due("node(1, 1) by the sixteenth arc", last.node(1, 1), 0);
        says("Terms: STRONG, by their way");
        due("count(4) of one node", net(1).count(4), 1);
        due("count(4) of one way", net(2, 0, 1, 1).count(4), 0);
        due("count(4) of both ways", net(2, 0, 1, 1, 1, 0, 1).count(4), 1);
        due("count(4): all come to 0, but not from it", net(3, 1, 0, 1, 2, 0, 1, 1, 2, 1).count(4), 0);
        due("count(4): all come from 0, but not to it", net(3, 0, 1, 1, 0, 2, 1, 1, 2, 1).count(4), 0);
        due("count(4) of nodes without arcs", net(8).count(4), 0);
        due("count(4) of a ring", ring().count(4), 1);
    }

    private static void termsParts() {
        says("Terms: PARTS are the greatest sets; a PART's number is its least node");
        NetBorders x = net(8, 7, 3, 0, 3, 5, 0, 5, 7, 0, 5, 6, 0);
        int[] part = {0, 1, 2, 3, 4, 3, 6, 3};
        for (int v = 0; v < 8; v++) {
            due("node(" + v + ", 0)", x.node(v, 0), part[v]);
        }
        due("count(2)", x.count(2), 6);
        due("count(2) without arcs", net(8).count(2), 8);
        due("count(2) of one node", net(1, 0, 0, 1).count(2), 1);
        due("count(2) of a ring", ring().count(2), 1);
    }

    private static void termsSides() {
        says("Terms: a SIDE is neither none nor all, and no ARC leaves it");
        sides(net(1));
        sides(net(2), 1, 2);
        sides(net(2, 0, 1, 0), 2);
        sides(net(2, 1, 0, 0), 1);
        sides(net(2, 0, 1, 0, 1, 0, 0));
        sides(net(2, 0, 0, 0), 1, 2);
        sides(net(3), 1, 2, 3, 4, 5, 6);
        NetBorders x = net(8);
        due("count(5) of eight nodes without arcs", x.count(5), 254);
        due("the first side", x.side(0, 0), 1);
        due("the last side", x.side(253, 0), 254);
        due("behind it", x.side(254, 0), -1);
        due("a border without arcs", x.side(253, 1), 0);
        says("Terms: an ARC ENTERS if its HEAD is within, its TAIL not");
        NetBorders star = fullNet();
        due("count(5)", star.count(5), 95);
        due("the last side of the star", star.side(94, 0), 254);
        due("its border: all that leave 0", star.side(94, 1), 0x3FFF);
        due("the first side of the star", star.side(0, 0), 4);
        due("its border", star.side(0, 1), 1 << 1 | 1 << 8 | 1 << 14);
    }

    private static void termsLeast() {
        says("Terms: LEAST, of several that whose bits are least");
        NetBorders x = net(2, 0, 1, 4, 0, 1, 4, 0, 1, 4);
        due("dijoin of three alike", x.dijoin(), 4);
        due("chosen of three alike", x.chosen(), 1);
        x.weigh(2, 3);
        due("dijoin: the weight goes before the bits", x.dijoin(), 3);
        due("chosen: the weight goes before the bits", x.chosen(), 4);
        NetBorders late = net(3, 0, 2, 3);
        for (int a = 1; a < 14; a++) {
            late.arc(0, 0, 0);
        }
        late.arc(0, 1, 1);
        late.arc(1, 2, 1);
        due("dijoin: the last two weigh less than the first", late.dijoin(), 2);
        due("chosen: the last two weigh less than the first", late.chosen(), 0xC000);
        says("Terms: LEAST has no ARC of weight 0 that it can do without");
        NetBorders light = net(3, 0, 0, 0, 0, 1, 0, 0, 1, 0, 1, 2, 0, 1, 2, 0);
        due("dijoin of weight 0", light.dijoin(), 0);
        due("chosen of weight 0", light.chosen(), 10);
        says("Terms: bits are compared as a number, not by how many there are");
        NetBorders two = net(3, 0, 1, 1, 1, 2, 1, 0, 2, 2);
        due("dijoin", two.dijoin(), 2);
        due("chosen: two arcs before a later one", two.chosen(), 3);
        NetBorders one = net(3, 0, 2, 2, 0, 1, 1, 1, 2, 1);
        due("dijoin", one.dijoin(), 2);
        due("chosen: one arc before two later ones", one.chosen(), 1);
    }

    private static void termsGreatest() {
        says("Terms: a PACKING fits if no LOAD is greater than the weight");
        NetBorders x = net(2, 0, 1, 1000, 0, 1, 999);
        due("packing", x.packing(), 999);
        family(x, 2, 999);
        loads(x, 999, 999);
        NetBorders none = net(2, 0, 1, 1000, 0, 1, 0);
        due("packing past a weight of 0", none.packing(), 0);
        family(none);
        says("Terms: GREATEST, of several that in which the first SIDE comes most often");
        NetBorders way = net(3, 0, 1, 5, 1, 2, 5, 0, 2, 5);
        due("packing", way.packing(), 5);
        family(way, 4, 5);
        loads(way, 0, 5, 5);
        says("Terms: of these the second, and so on");
        NetBorders more = diamond();
        due("packing", more.packing(), 3);
        family(more, 8, 1, 12, 2);
        says("Terms: the most times go before the first SIDE");
        NetBorders fan = net(3, 0, 1, 2, 0, 2, 2);
        due("packing", fan.packing(), 4);
        family(fan, 2, 2, 4, 2);
        NetBorders inward = net(3, 1, 0, 2, 2, 0, 3);
        due("packing", inward.packing(), 5);
        family(inward, 3, 3, 5, 2);
        loads(inward, 2, 3);
        NetBorders partly = net(4, 2, 0, 4, 3, 1, 3, 1, 0, 4, 3, 0, 2, 2, 1, 3);
        due("packing", partly.packing(), 5);
        family(partly, 1, 1, 7, 1, 11, 3);
        loads(partly, 4, 1, 1, 2, 3);
    }

    // Promise 1

    private static void newObject() {
        says("1: one node, no ARCS");
        int[] counts = {1, 0, 1, 1, 1, 0, 0, 0};
        for (int what = 0; what < 8; what++) {
            due("count(" + what + ")", new NetBorders().count(what), counts[what]);
        }
        NetBorders x = new NetBorders();
        int[] node = {0, 0, 1, 1};
        for (int what = 0; what < 4; what++) {
            due("node(0, " + what + ")", x.node(0, what), node[what]);
            due("node(1, " + what + ")", x.node(1, what), -1);
            due("tell(0, " + what + ")", x.tell(0, what), -1);
        }
        due("drop(0)", x.drop(0), -1);
        due("weigh(0, 0)", x.weigh(0, 0), -1);
        due("turn(0)", x.turn(0), false);
        due("join(0, 0)", x.join(0, 0), -1);
        due("join(0, 1)", x.join(0, 1), -1);
        due("side(0, 0)", x.side(0, 0), -1);
        due("bounds(0, false)", x.bounds(0, false), 0);
        due("bounds(0, true)", x.bounds(0, true), 0);
        due("isDijoin(0)", x.isDijoin(0), true);
        due("isStrong(0)", x.isStrong(0), true);
        due("cost(0, 0)", x.cost(0, 0), -1);
        due("draw(0, 1)", x.draw(0, 1), -1);
        due("draw(1, 1)", x.draw(1, 1), -1);
        due("arc(1, 0, 1)", x.arc(1, 0, 1), -1);
        due("arc(0, 1, 1)", x.arc(0, 1, 1), -1);
        due("arc(0, 0, 1)", x.arc(0, 0, 1), 0);
    }

    private static void newObjectHasNothingAtHand() {
        says("1: no set and no family at hand, no images");
        NetBorders x = new NetBorders();
        due("chosen()", x.chosen(), 0);
        due("uncross()", x.uncross(), -1);
        due("member(0, 0)", x.member(0, 0), -1);
        due("member(0, 1)", x.member(0, 1), -1);
        for (int k = 0; k < 4; k++) {
            due("again(" + k + ")", x.again(k), false);
        }
        due("count(7)", x.count(7), 0);
        says("1: two objects have nothing in common");
        NetBorders other = fullNet();
        other.dijoin();
        other.packing();
        other.image(0);
        due("count(0) of the first", x.count(0), 1);
        due("chosen() of the first", x.chosen(), 0);
        due("uncross() of the first", x.uncross(), -1);
        due("again(0) of the first", x.again(0), false);
    }

    // Promise 2

    private static void beginBounds() {
        says("2: true for n 1 .. 8; false for another n");
        NetBorders x = new NetBorders();
        for (int n = 1; n <= 8; n++) {
            due("begin(" + n + ")", x.begin(n), true);
            due("count(0)", x.count(0), n);
            due("node(n - 1, 0)", x.node(n - 1, 0), n - 1);
            due("node(n, 0)", x.node(n, 0), -1);
        }
        for (int n : new int[] {0, 9}) {
            due("begin(" + n + ")", x.begin(n), false);
            due("count(0)", x.count(0), 8);
        }
        for (int n : NEVER_A_NUMBER) {
            due("begin(" + n + ")", x.begin(n), false);
            due("count(0)", x.count(0), 8);
        }
    }

    private static void beginLeavesNothingAtHand() {
        says("2: without ARCS, no set and no family is at hand, for the same n too");
        for (int n : new int[] {4, 1, 8}) {
            NetBorders x = diamond();
            x.dijoin();
            x.packing();
            due("begin(" + n + ")", x.begin(n), true);
            due("count(1)", x.count(1), 0);
            due("tell(0, 0)", x.tell(0, 0), -1);
            due("chosen()", x.chosen(), 0);
            due("count(6)", x.count(6), 0);
            due("member(0, 0)", x.member(0, 0), -1);
            due("uncross()", x.uncross(), -1);
            due("the first arc's number", x.arc(0, 0, 1), 0);
            due("its load", x.tell(0, 3), 0);
            due("it is in no set", x.tell(0, 4), 0);
        }
        NetBorders x = diamond();
        x.packing();
        x.begin(2);
        x.arc(0, 1, 7);
        due("draw in a new family", x.draw(2, 1), 1);
        family(x, 2, 1);
        loads(x, 1);
    }

    private static void beginLeavesImages() {
        says("2: images stay");
        NetBorders x = diamond();
        x.dijoin();
        x.packing();
        for (int k = 0; k < 4; k++) {
            x.image(k);
        }
        due("begin(8)", x.begin(8), true);
        due("count(7)", x.count(7), 4);
        for (int k = 0; k < 4; k++) {
            x.begin(1);
            due("again(" + k + ")", x.again(k), true);
            due("count(0)", x.count(0), 4);
            due("chosen()", x.chosen(), 10);
            family(x, 8, 1, 12, 2);
        }
    }

    // Promise 3

    private static void arcSixteen() {
        says("3: an ARC: its number, 0 .. 15");
        NetBorders x = net(8);
        for (int a = 0; a < 16; a++) {
            due("arc", x.arc(a % 8, (a + 3) % 8, 60 * a), a);
        }
        for (int a = 0; a < 16; a++) {
            arcIs(x, a, a % 8, (a + 3) % 8, 60 * a);
        }
        says("3: NONE: there are 16");
        due("a 17th arc", x.arc(0, 1, 1), -1);
        due("a 17th arc, of one node", x.arc(0, 0, 0), -1);
        due("count(1)", x.count(1), 16);
        due("tell(16, 0)", x.tell(16, 0), -1);
        arcIs(x, 15, 7, 2, 900);
        due("drop(15)", x.drop(15), 15);
        due("arc once there are 15", x.arc(4, 4, 4), 15);
        due("a 17th arc again", x.arc(4, 4, 4), -1);
        due("begin(1)", x.begin(1), true);
        for (int a = 0; a < 16; a++) {
            due("arc of the one node", x.arc(0, 0, a), a);
        }
        due("a 17th arc of the one node", x.arc(0, 0, 1), -1);
    }

    private static void arcNodes() {
        says("3: NONE: no such node (of either)");
        for (int n = 1; n <= 8; n++) {
            NetBorders x = net(n);
            due("TAIL n", x.arc(n, 0, 1), -1);
            due("HEAD n", x.arc(0, n, 1), -1);
            due("TAIL -1", x.arc(-1, 0, 1), -1);
            due("HEAD -1", x.arc(0, -1, 1), -1);
            for (int v : NEVER_A_NUMBER) {
                due("TAIL " + v, x.arc(v, 0, 1), -1);
                due("HEAD " + v, x.arc(0, v, 1), -1);
                due("both " + v, x.arc(v, v, 1), -1);
            }
            due("count(1)", x.count(1), 0);
            due("TAIL n - 1, HEAD 0", x.arc(n - 1, 0, 1), 0);
            due("TAIL 0, HEAD n - 1", x.arc(0, n - 1, 1), 1);
        }
        NetBorders joined = net(3);
        joined.join(0, 1);
        due("a node that has been joined", joined.arc(2, 0, 1), -1);
        due("the last one now", joined.arc(1, 0, 1), 0);
    }

    private static void arcWeights() {
        says("3: NONE: another weight than 0 .. 1000");
        NetBorders x = net(2);
        due("-1", x.arc(0, 1, -1), -1);
        due("1001", x.arc(0, 1, 1001), -1);
        due("far below", x.arc(0, 1, LOW), -1);
        due("far above", x.arc(0, 1, HIGH), -1);
        due("65536", x.arc(0, 1, 65536), -1);
        due("count(1)", x.count(1), 0);
        due("0", x.arc(0, 1, 0), 0);
        due("1000", x.arc(0, 1, 1000), 1);
        arcIs(x, 0, 0, 1, 0);
        arcIs(x, 1, 0, 1, 1000);
    }

    // Promise 4

    private static void dropNumbersAnew() {
        says("4: those behind it are numbered anew: how many are left");
        for (int gone : new int[] {0, 7, 14, 15}) {
            NetBorders x = net(8);
            for (int a = 0; a < 16; a++) {
                x.arc(a % 8, (a + 3) % 8, a);
            }
            due("drop(" + gone + ")", x.drop(gone), 15);
            due("count(1)", x.count(1), 15);
            for (int a = 0; a < 15; a++) {
                int was = a < gone ? a : a + 1;
                arcIs(x, a, was % 8, (was + 3) % 8, was);
            }
            due("tell(15, 0)", x.tell(15, 0), -1);
        }
        NetBorders x = fullNet();
        for (int left = 15; left >= 0; left--) {
            due("drop of the last", x.drop(left), left);
        }
        due("count(1)", x.count(1), 0);
    }

    private static void dropNoneSuch() {
        says("4: NONE: there is none such");
        NetBorders x = diamond();
        due("drop(4)", x.drop(4), -1);
        for (int a : NEVER_A_NUMBER) {
            due("drop(" + a + ")", x.drop(a), -1);
        }
        due("count(1)", x.count(1), 4);
        due("drop(3)", x.drop(3), 3);
        due("drop(3), no more", x.drop(3), -1);
        due("drop(16) of the full net", fullNet().drop(16), -1);
        due("drop(15) of the full net", fullNet().drop(15), 15);
        due("drop(0) of the empty net", net(8).drop(0), -1);
    }

    // Promise 5

    private static void weighBounds() {
        says("5: the weight that it had, 0 .. 1000");
        NetBorders x = fullNet();
        due("weigh(0, 1000)", x.weigh(0, 1000), 10);
        due("weigh(0, 0)", x.weigh(0, 0), 1000);
        due("weigh(0, 0)", x.weigh(0, 0), 0);
        due("weigh(15, 1)", x.weigh(15, 1), 1000);
        due("tell(15, 2)", x.tell(15, 2), 1);
        says("5: NONE: there is none such, or another weight");
        for (int w : new int[] {-1, 1001, 65536, LOW, HIGH}) {
            due("weigh(15, " + w + ")", x.weigh(15, w), -1);
            due("tell(15, 2)", x.tell(15, 2), 1);
        }
        due("weigh(16, 1)", x.weigh(16, 1), -1);
        for (int a : NEVER_A_NUMBER) {
            due("weigh(" + a + ", 1)", x.weigh(a, 1), -1);
        }
        due("tell(0, 2)", x.tell(0, 2), 0);
        due("tell(1, 2)", x.tell(1, 2), 11);
        due("weigh of the empty net", net(8).weigh(0, 1), -1);
        NetBorders four = diamond();
        due("weigh(4, 1)", four.weigh(4, 1), -1);
        due("weigh(3, 1)", four.weigh(3, 1), 1);
    }

    // Promise 6

    private static void turnBounds() {
        says("6: an ARC goes the other way: true");
        NetBorders x = fullNet();
        due("turn(0)", x.turn(0), true);
        arcIs(x, 0, 1, 0, 10);
        due("turn(15), of one node", x.turn(15), true);
        arcIs(x, 15, 7, 7, 1000);
        due("turn(0) once more", x.turn(0), true);
        arcIs(x, 0, 0, 1, 10);
        arcIs(x, 1, 0, 2, 11);
        says("6: false if there is none such");
        due("turn(16)", x.turn(16), false);
        for (int a : NEVER_A_NUMBER) {
            due("turn(" + a + ")", x.turn(a), false);
        }
        due("turn(0) of the empty net", net(8).turn(0), false);
        due("turn(4) of four", diamond().turn(4), false);
        due("turn(3) of four", diamond().turn(3), true);
    }

    // Promise 7

    private static void joinNumbersAnew() {
        says("7: nodes behind b are numbered anew: how many nodes there are");
        int[][] pairs = {{0, 7}, {7, 0}, {6, 7}, {7, 6}, {0, 1}, {1, 0}, {3, 5}, {5, 3}};
        for (int[] ab : pairs) {
            NetBorders x = net(8);
            for (int v = 0; v < 8; v++) {
                x.arc(v, (v + 1) % 8, v);
            }
            due("join(" + ab[0] + ", " + ab[1] + ")", x.join(ab[0], ab[1]), 7);
            due("count(0)", x.count(0), 7);
            due("count(1)", x.count(1), 8);
            for (int v = 0; v < 8; v++) {
                arcIs(x, v, joined(v, ab[0], ab[1]), joined((v + 1) % 8, ab[0], ab[1]), v);
            }
            due("node(7, 0)", x.node(7, 0), -1);
        }
        NetBorders x = net(8, 0, 7, 1);
        for (int left = 7; left >= 1; left--) {
            due("join(" + left + ", 0)", x.join(left, 0), left);
        }
        arcIs(x, 0, 0, 0, 1);
        due("join(0, 0) of the one node", x.join(0, 0), -1);
        due("join(0, 1) of the one node", x.join(0, 1), -1);
        due("count(0)", x.count(0), 1);
    }

    private static int joined(int v, int a, int b) {
        int node = v == b ? a : v;
        return node < b ? node : node - 1;
    }

    private static void joinNoneSuch() {
        says("7: NONE: there is none such (of either), or they are one");
        for (int n = 1; n <= 8; n++) {
            NetBorders x = net(n);
            due("join(n, 0)", x.join(n, 0), -1);
            due("join(0, n)", x.join(0, n), -1);
            for (int v : NEVER_A_NUMBER) {
                due("join(" + v + ", 0)", x.join(v, 0), -1);
                due("join(0, " + v + ")", x.join(0, v), -1);
            }
            for (int v = 0; v < n; v++) {
                due("join of one", x.join(v, v), -1);
            }
            due("count(0)", x.count(0), n);
            due("join(n - 1, 0)", x.join(n - 1, 0), n == 1 ? -1 : n - 1);
        }
    }

    private static void joinLeavesWhatIsAtHand() {
        says("7: the set and the family at hand stay");
        NetBorders x = diamond();
        x.dijoin();
        x.packing();
        due("join(0, 3)", x.join(0, 3), 3);
        due("chosen()", x.chosen(), 10);
        family(x, 8, 1, 12, 2);
        loads(x, 0, 2, 3, 1);
    }

    // Promise 8

    private static void tellBounds() {
        says("8: NONE if there is none such, or for another what");
        NetBorders x = fullNet();
        x.dijoin();
        x.packing();
        for (int what = 0; what < 5; what++) {
            due("tell(16, " + what + ")", x.tell(16, what), -1);
            for (int a : NEVER_A_NUMBER) {
                due("tell(" + a + ", " + what + ")", x.tell(a, what), -1);
            }
        }
        due("tell(0, 5)", x.tell(0, 5), -1);
        due("tell(15, 5)", x.tell(15, 5), -1);
        for (int what : NEVER_A_NUMBER) {
            due("tell(0, " + what + ")", x.tell(0, what), -1);
        }
        arcIs(x, 15, 7, 7, 1000);
        due("tell(15, 3)", x.tell(15, 3), 0);
        due("tell(15, 4)", x.tell(15, 4), 0);
        due("tell of the empty net", net(8).tell(0, 3), -1);
        due("tell(4, 4) of four", diamond().tell(4, 4), -1);
    }

    private static void tellWithout() {
        says("8: 0 without a family, 0 if it is not in the set");
        NetBorders x = diamond();
        for (int a = 0; a < 4; a++) {
            due("tell(" + a + ", 3)", x.tell(a, 3), 0);
            due("tell(" + a + ", 4)", x.tell(a, 4), 0);
        }
        x.dijoin();
        for (int a = 0; a < 4; a++) {
            due("tell(" + a + ", 3)", x.tell(a, 3), 0);
            due("tell(" + a + ", 4)", x.tell(a, 4), a % 2);
        }
        NetBorders last = net(2);
        for (int a = 0; a < 16; a++) {
            last.arc(0, 1, 16 - a);
        }
        last.dijoin();
        last.packing();
        due("tell(15, 4)", last.tell(15, 4), 1);
        due("tell(14, 4)", last.tell(14, 4), 0);
        due("tell(15, 3)", last.tell(15, 3), 1);
        due("tell(0, 3)", last.tell(0, 3), 1);
    }

    private static void tellByNumbersAsTheyWere() {
        says("8: LOAD by numbers as they were when that was made or drawn");
        NetBorders x = diamond();
        x.dijoin();
        x.packing();
        x.drop(0);
        loads(x, 0, 2, 3);
        due("tell(1, 4)", x.tell(1, 4), 1);
        due("tell(2, 4)", x.tell(2, 4), 0);
        due("arc in the place of the last", x.arc(1, 1, 9), 3);
        due("tell(3, 3)", x.tell(3, 3), 1);
        due("tell(3, 4)", x.tell(3, 4), 1);
        due("an arc of a number that was none", x.arc(1, 1, 9), 4);
        due("tell(4, 3)", x.tell(4, 3), 0);
        due("tell(4, 4)", x.tell(4, 4), 0);
        x.turn(1);
        x.weigh(1, 0);
        loads(x, 0, 2, 3, 1);
    }

    // Promise 9

    private static void nodeBounds() {
        says("9: NONE if there is none such, or for another what");
        for (int n = 1; n <= 8; n++) {
            NetBorders x = net(n);
            for (int what = 0; what < 4; what++) {
                due("node(n, " + what + ")", x.node(n, what), -1);
                for (int v : NEVER_A_NUMBER) {
                    due("node(" + v + ", " + what + ")", x.node(v, what), -1);
                }
            }
            due("node(0, 4)", x.node(0, 4), -1);
            for (int what : NEVER_A_NUMBER) {
                due("node(0, " + what + ")", x.node(0, what), -1);
            }
            int last = n - 1;
            int[] alone = {last, last, 1 << last, 1 << last};
            for (int what = 0; what < 4; what++) {
                due("node(n - 1, " + what + ")", x.node(last, what), alone[what]);
            }
        }
    }

    private static void nodeFull() {
        says("9: from the first node to the last of eight, itself too");
        NetBorders x = net(8);
        for (int v = 0; v < 7; v++) {
            x.arc(v + 1, v, 0);
        }
        for (int v = 0; v < 8; v++) {
            int[] want = {v, 0, (2 << v) - 1, 256 - (1 << v)};
            for (int what = 0; what < 4; what++) {
                due("node(" + v + ", " + what + ")", x.node(v, what), want[what]);
            }
        }
        x.arc(0, 7, 0);
        for (int v = 0; v < 8; v++) {
            int[] want = {0, 0, 255, 255};
            for (int what = 0; what < 4; what++) {
                due("node(" + v + ", " + what + ") in the ring", x.node(v, what), want[what]);
            }
        }
    }

    private static void nodeAtOnce() {
        says("9: of the NET as it is, whatever was asked before");
        int[] before = {1, 0, 2, 3};
        int[] after = {1, 0, 3, 2};
        for (int what = 0; what < 4; what++) {
            NetBorders x = net(2, 0, 1, 1);
            due("count(3)", x.count(3), 1);
            due("node(1, " + what + ")", x.node(1, what), before[what]);
            x.turn(0);
            due("node(1, " + what + ") once turned", x.node(1, what), after[what]);
            x.arc(0, 1, 1);
            due("isStrong(0)", x.isStrong(0), true);
            due("node(1, " + what + ") in a ring", x.node(1, what), what < 2 ? 0 : 3);
        }
    }

    // Promise 10

    private static void countBounds() {
        says("10: NONE for another what");
        for (Supplier<NetBorders> kind : kinds()) {
            NetBorders x = kind.get();
            due("count(8)", x.count(8), -1);
            for (int what : NEVER_A_NUMBER) {
                due("count(" + what + ")", x.count(what), -1);
            }
        }
        says("10: the empty net and the full one");
        counts(net(1), 1, 0, 1, 1, 1, 0, 0, 0);
        counts(net(8), 8, 0, 8, 0, 0, 254, 0, 0);
        counts(fullNet(), 8, 16, 8, 1, 0, 95, 0, 0);
        counts(ring(), 3, 3, 1, 1, 1, 0, 0, 0);
        counts(apart(), 4, 2, 4, 0, 0, 7, 0, 0);
        counts(net(1, 0, 0, 0), 1, 1, 1, 1, 1, 0, 0, 0);
    }

    private static void countAtHand() {
        says("10: members of the family at hand (0 without)");
        NetBorders x = net(8);
        due("count(6) without", x.count(6), 0);
        for (int set = 1; set < 255; set++) {
            x.draw(set, 1);
        }
        due("count(6) of all sides", x.count(6), 254);
        x.draw(254, -1);
        due("count(6) of all but one", x.count(6), 253);
        NetBorders strong = ring();
        strong.packing();
        due("count(6) of an empty one", strong.count(6), 0);
        says("10: images, 0 .. 4");
        for (int k = 3; k >= 0; k--) {
            strong.image(k);
            strong.image(k);
            due("count(7)", strong.count(7), 4 - k);
        }
        strong.image(4);
        due("count(7)", strong.count(7), 4);
    }

    private static void counts(NetBorders x, int... want) {
        for (int what = 0; what < 8; what++) {
            due("count(" + what + ")", x.count(what), want[what]);
        }
    }

    private static List<Supplier<NetBorders>> kinds() {
        return List.of(NetBorders::new, () -> net(8), BoundaryTests::fullNet, BoundaryTests::diamond,
            BoundaryTests::ring, BoundaryTests::apart);
    }

    // Promise 11

    private static void sideBounds() {
        says("11: NONE if there is none such, or for another what");
        for (Supplier<NetBorders> kind : kinds()) {
            NetBorders x = kind.get();
            int sides = x.count(5);
            for (int what = 0; what < 2; what++) {
                due("side behind the last", x.side(sides, what), -1);
                due("side(-1)", x.side(-1, what), -1);
                due("side(LOW)", x.side(LOW, what), -1);
                due("side(HIGH)", x.side(HIGH, what), -1);
                due("side(256)", x.side(256, what), -1);
            }
            due("side(0, 2)", x.side(0, 2), -1);
            for (int what : NEVER_A_NUMBER) {
                due("side(0, " + what + ")", x.side(0, what), -1);
            }
        }
        NetBorders x = diamond();
        due("the first side", x.side(0, 0), 8);
        due("the last side", x.side(3, 0), 14);
        due("the last side's border", x.side(3, 1), 3);
        says("11: a BORDER of all sixteen ARCS, and of none");
        NetBorders wide = net(2);
        due("of none", wide.side(1, 1), 0);
        for (int a = 0; a < 16; a++) {
            wide.arc(0, 1, 1);
        }
        due("of all", wide.side(0, 1), 0xFFFF);
    }

    // Promise 12

    private static void boundsEntersNone() {
        says("12: 0: it ENTERS none");
        for (boolean greatest : new boolean[] {false, true}) {
            for (int a = 0; a < 3; a++) {
                due("bounds of a ring", ring().bounds(a, greatest), 0);
            }
            due("bounds of an arc of one node", fullNet().bounds(15, greatest), 0);
            due("bounds of the one node", net(1, 0, 0, 1).bounds(0, greatest), 0);
            NetBorders part = net(3, 0, 1, 1, 1, 0, 1, 1, 2, 1);
            due("bounds within a part", part.bounds(0, greatest), 0);
            due("bounds within a part", part.bounds(1, greatest), 0);
            due("bounds out of a part", part.bounds(2, greatest), 4);
        }
        says("12: 0: there is no such ARC");
        for (boolean greatest : new boolean[] {false, true}) {
            due("bounds(16) of the full net", fullNet().bounds(16, greatest), 0);
            due("bounds(4) of four", diamond().bounds(4, greatest), 0);
            due("bounds(0) of the empty net", net(8).bounds(0, greatest), 0);
            NetBorders x = fullNet();
            for (int a : NEVER_A_NUMBER) {
                due("bounds(" + a + ")", x.bounds(a, greatest), 0);
            }
        }
    }

    private static void boundsFarApart() {
        says("12: the SIDE that lies in all, in which all lie");
        NetBorders x = fullNet();
        due("bounds(6, false)", x.bounds(6, false), 128);
        due("bounds(6, true)", x.bounds(6, true), 254);
        due("bounds(0, false)", x.bounds(0, false), 6);
        due("bounds(14, false)", x.bounds(14, false), 4);
        due("bounds(14, true)", x.bounds(14, true), 252);
        NetBorders two = net(2, 0, 1, 0);
        due("bounds of the one side", two.bounds(0, false), 2);
        due("bounds of the one side", two.bounds(0, true), 2);
        says("12: in a NET that is not WHOLE");
        NetBorders loose = apart();
        due("bounds(0, false)", loose.bounds(0, false), 2);
        due("bounds(0, true)", loose.bounds(0, true), 14);
    }

    // Promises 13 and 14

    private static void isDijoinBounds() {
        says("13: bits without an ARC count for nothing");
        NetBorders x = diamond();
        for (int more : new int[] {0, 16, 0xFFF0, 0x10000, 0x50000, 0x7FFFFFF0, LOW, -16}) {
            due("isDijoin(5 | " + more + ")", x.isDijoin(5 | more), true);
            due("isDijoin(3 | " + more + ")", x.isDijoin(3 | more), false);
            due("isDijoin(" + more + ")", x.isDijoin(more), false);
        }
        due("isDijoin(-1)", x.isDijoin(-1), true);
        says("13: with no SIDES any set is one, in a NET that is not WHOLE none is");
        for (int set : new int[] {0, 1, 7, -1, LOW, HIGH}) {
            due("isDijoin(" + set + ") of one node", net(1).isDijoin(set), true);
            due("isDijoin(" + set + ") of a ring", ring().isDijoin(set), true);
            due("isDijoin(" + set + ") of a loose net", apart().isDijoin(set), false);
            due("isDijoin(" + set + ") of the empty net", net(8).isDijoin(set), false);
        }
        says("13: sixteen ARCS");
        NetBorders full = fullNet();
        due("isDijoin(0x3F81)", full.isDijoin(0x3F81), true);
        due("isDijoin(0x7F): the first seven", full.isDijoin(0x7F), true);
        due("isDijoin(0x7D): without the second", full.isDijoin(0x7D), false);
        due("isDijoin(0xFFFF0000)", full.isDijoin(0xFFFF0000), false);
        due("isDijoin(0xFFFF)", full.isDijoin(0xFFFF), true);
    }

    private static void isStrongBounds() {
        says("14: the ARCS of a set went both ways; bits without an ARC count for nothing");
        NetBorders x = diamond();
        for (int more : new int[] {0, 16, 0xFFF0, 0x10000, 0x50000, 0x7FFFFFF0, LOW, -16}) {
            due("isStrong(5 | " + more + ")", x.isStrong(5 | more), true);
            due("isStrong(3 | " + more + ")", x.isStrong(3 | more), false);
            due("isStrong(" + more + ")", x.isStrong(more), false);
        }
        due("isStrong(-1)", x.isStrong(-1), true);
        for (int set : new int[] {0, 1, 7, -1, LOW, HIGH}) {
            due("isStrong(" + set + ") of one node", net(1).isStrong(set), true);
            due("isStrong(" + set + ") of a ring", ring().isStrong(set), true);
            due("isStrong(" + set + ") of a loose net", apart().isStrong(set), false);
            due("isStrong(" + set + ") of the empty net", net(8).isStrong(set), false);
        }
        NetBorders full = fullNet();
        due("isStrong(0x7F): the first seven", full.isStrong(0x7F), true);
        due("isStrong(0x7D): without the second", full.isStrong(0x7D), false);
        due("isStrong(0xFFFF0000)", full.isStrong(0xFFFF0000), false);
        due("the arcs go one way after it", full.count(4), 0);
        arcIs(full, 0, 0, 1, 10);
        due("count(1)", full.count(1), 16);
    }

    // Promises 15 and 16

    private static void dijoinBounds() {
        says("15: NONE: the NET is not WHOLE");
        NetBorders x = apart();
        due("dijoin()", x.dijoin(), -1);
        due("chosen()", x.chosen(), 0);
        due("dijoin() of the empty net", net(8).dijoin(), -1);
        NetBorders was = diamond();
        was.dijoin();
        was.drop(3);
        was.drop(1);
        due("dijoin() that is refused", was.dijoin(), -1);
        due("the set that was at hand", was.chosen(), 10);
        says("15: the empty set is LEAST of a STRONG NET");
        NetBorders strong = ring();
        due("dijoin()", strong.dijoin(), 0);
        due("chosen()", strong.chosen(), 0);
        NetBorders closed = diamond();
        closed.dijoin();
        closed.arc(3, 0, 1000);
        due("dijoin()", closed.dijoin(), 0);
        due("chosen(): not the one before", closed.chosen(), 0);
        NetBorders one = net(1, 0, 0, 1000);
        due("dijoin() of one node", one.dijoin(), 0);
        due("chosen() of one node", one.chosen(), 0);
    }

    private static void dijoinHeaviest() {
        says("15: its weight, at the most and at the least");
        NetBorders x = net(8);
        for (int v = 0; v < 7; v++) {
            x.arc(v, v + 1, 1000);
        }
        due("dijoin()", x.dijoin(), 7000);
        due("chosen()", x.chosen(), 127);
        for (int a = 0; a < 9; a++) {
            x.arc(a % 7, a % 7 + 1, 1000);
        }
        due("dijoin() of sixteen arcs", x.dijoin(), 7000);
        due("chosen() of sixteen arcs", x.chosen(), 127);
        x.weigh(15, 999);
        due("dijoin() by the last arc", x.dijoin(), 6999);
        due("chosen() by the last arc", x.chosen(), 0x807D);
        for (int a = 0; a < 16; a++) {
            x.weigh(a, 0);
        }
        due("dijoin() of weights 0", x.dijoin(), 0);
        due("chosen() of weights 0", x.chosen(), 127);
    }

    private static void chosenAsItWas() {
        says("16: bits of ARCS as they were numbered when it was made; 0 without");
        NetBorders x = diamond();
        due("chosen() without", x.chosen(), 0);
        x.packing();
        x.cost(0, 1);
        x.isDijoin(15);
        due("chosen() without, still", x.chosen(), 0);
        x.dijoin();
        x.drop(0);
        due("chosen() after drop", x.chosen(), 10);
        x.drop(0);
        x.drop(0);
        x.drop(0);
        due("chosen() when no arcs are left", x.chosen(), 10);
        x.join(0, 1);
        due("chosen() after join", x.chosen(), 10);
        x.begin(4);
        due("chosen() after begin", x.chosen(), 0);
    }

    // Promise 17

    private static void costBounds() {
        says("17: if an ARC weighed so much, 0 .. 1000, or (-1) could not be in it");
        NetBorders x = diamond();
        due("cost(3, 0)", x.cost(3, 0), 2);
        due("cost(3, 1000)", x.cost(3, 1000), 7);
        due("cost(3, -1)", x.cost(3, -1), 7);
        due("cost(2, 0)", x.cost(2, 0), 3);
        due("cost(3, 1): as it is", x.cost(3, 1), 3);
        NetBorders two = net(2, 0, 1, 1000, 0, 1, 1000);
        due("cost(0, 1000)", two.cost(0, 1000), 1000);
        due("cost(0, 999)", two.cost(0, 999), 999);
        due("cost(0, -1)", two.cost(0, -1), 1000);
        says("17: NONE: another weight");
        for (int w : new int[] {-2, 1001, -1000, 65535, LOW, HIGH}) {
            due("cost(3, " + w + ")", x.cost(3, w), -1);
        }
        says("17: NONE: there is no such ARC");
        for (int w : new int[] {-1, 0, 1000}) {
            due("cost(4, " + w + ")", x.cost(4, w), -1);
            due("cost(16, " + w + ") of the full net", fullNet().cost(16, w), -1);
            due("cost(0, " + w + ") of one node", net(1).cost(0, w), -1);
            for (int a : NEVER_A_NUMBER) {
                due("cost(" + a + ", " + w + ")", x.cost(a, w), -1);
            }
        }
        due("tell(3, 2)", x.tell(3, 2), 1);
        due("chosen()", x.chosen(), 0);
    }

    private static void costOnlyAsks() {
        says("17: the ARC may be in LEAST again after it, at its own weight");
        for (int w : new int[] {-1, 0, 1000, -2, 1001}) {
            NetBorders x = diamond();
            x.cost(3, w);
            due("dijoin() after cost(3, " + w + ")", x.dijoin(), 3);
            due("chosen()", x.chosen(), 10);
            x.cost(1, w);
            due("packing() after cost(1, " + w + ")", x.packing(), 3);
            family(x, 8, 1, 12, 2);
            due("cost(0, 3): as it is", x.cost(0, 3), 3);
        }
    }

    private static void costNoDijoin() {
        says("17: NONE: the NET is not WHOLE");
        for (int w : new int[] {-1, 0, 1, 1000}) {
            due("cost(0, " + w + ")", apart().cost(0, w), -1);
        }
        says("17: NONE: there is no DIJOIN without it");
        NetBorders way = net(3, 0, 1, 4, 1, 2, 5, 1, 2, 6);
        due("cost(0, -1)", way.cost(0, -1), -1);
        due("cost(1, -1): another goes alike", way.cost(1, -1), 10);
        due("cost(0, 0)", way.cost(0, 0), 5);
        due("cost(0, 1000)", way.cost(0, 1000), 1005);
        NetBorders free = net(2, 0, 1, 0);
        due("cost(0, -1) of weight 0", free.cost(0, -1), -1);
        due("cost(0, 0) of weight 0", free.cost(0, 0), 0);
        says("17: an ARC that ENTERS no SIDE can always be done without");
        NetBorders strong = ring();
        for (int w : new int[] {-1, 0, 1000}) {
            due("cost(2, " + w + ") in a ring", strong.cost(2, w), 0);
            due("cost(15, " + w + ") of one node", fullNet().cost(15, w), fullNet().dijoin());
        }
        due("cost of the one node's arc", net(1, 0, 0, 7).cost(0, -1), 0);
    }

    // Promise 18

    private static void packingBounds() {
        says("18: NONE: the NET is not WHOLE");
        NetBorders x = apart();
        due("packing()", x.packing(), -1);
        due("no family is at hand", x.uncross(), -1);
        due("packing() of the empty net", net(8).packing(), -1);
        x.draw(2, 5);
        due("packing() that is refused", x.packing(), -1);
        family(x, 2, 5);
        loads(x, 5, 0);
        says("18: without SIDES the family at hand has no members");
        NetBorders strong = ring();
        due("packing()", strong.packing(), 0);
        family(strong);
        due("uncross()", strong.uncross(), 0);
        due("packing() of one node", net(1).packing(), 0);
        NetBorders closed = diamond();
        closed.packing();
        closed.arc(3, 0, 9);
        due("packing()", closed.packing(), 0);
        family(closed);
        loads(closed, 0, 0, 0, 0, 0);
    }

    private static void packingAtItsMost() {
        says("18: how many times in all, at the most and at the least");
        NetBorders x = net(8);
        for (int v = 0; v < 7; v++) {
            x.arc(v, v + 1, 1000);
        }
        due("packing()", x.packing(), 7000);
        family(x, 128, 1000, 192, 1000, 224, 1000, 240, 1000, 248, 1000, 252, 1000, 254, 1000);
        loads(x, 1000, 1000, 1000, 1000, 1000, 1000, 1000);
        for (int a = 0; a < 7; a++) {
            x.weigh(a, 0);
        }
        due("packing() of weights 0", x.packing(), 0);
        family(x);
        loads(x, 0, 0, 0, 0, 0, 0, 0);
        due("it is at hand", x.uncross(), 0);
        says("18: it takes the place of what was drawn");
        NetBorders drawn = diamond();
        drawn.draw(10, 1000);
        due("packing()", drawn.packing(), 3);
        family(drawn, 8, 1, 12, 2);
        loads(drawn, 0, 2, 3, 1);
        drawn.join(0, 1);
        due("packing() of the nodes there are", drawn.packing(), drawn.dijoin());
        due("draw in it", drawn.draw(4, 0), 1);
    }

    // Promise 19

    private static void drawNoSide() {
        says("19: NONE: it is no SIDE of the NET as it is");
        NetBorders x = diamond();
        boolean[] side = new boolean[16];
        side[8] = side[10] = side[12] = side[14] = true;
        for (int set = 0; set < 16; set++) {
            due("draw(" + set + ", 1)", x.draw(set, 1), side[set] ? 1 : -1);
        }
        for (int set : new int[] {16, 24, 30, 31, 264, 65544, -8, -2, -1, LOW, LOW + 8, HIGH}) {
            due("draw(" + set + ", 1)", x.draw(set, 1), -1);
            due("draw(" + set + ", 0)", x.draw(set, 0), -1);
        }
        family(x, 8, 1, 10, 1, 12, 1, 14, 1);
        x.turn(1);
        due("draw of a member that is no SIDE any more", x.draw(12, -1), -1);
        due("draw(14): no SIDE any more", x.draw(14, 1), -1);
        family(x, 8, 1, 10, 1, 12, 1, 14, 1);
        NetBorders wide = net(8);
        due("draw(254, 1) of eight nodes", wide.draw(254, 1), 1);
        due("draw(255, 1) of eight nodes", wide.draw(255, 1), -1);
        due("draw(256, 1) of eight nodes", wide.draw(256, 1), -1);
        due("draw(257, 1) of eight nodes", wide.draw(257, 1), -1);
        due("draw(0, 1) of eight nodes", wide.draw(0, 1), -1);
        due("draw(1, 1) of one node", net(1).draw(1, 1), -1);
        due("draw(1, 1) of a ring", ring().draw(1, 1), -1);
    }

    private static void drawTimes() {
        says("19: NONE: it would have less than 0 or more than 1000 times");
        NetBorders x = diamond();
        due("draw(8, -1)", x.draw(8, -1), -1);
        due("draw(8, 1001)", x.draw(8, 1001), -1);
        due("draw(8, HIGH)", x.draw(8, HIGH), -1);
        due("draw(8, LOW)", x.draw(8, LOW), -1);
        due("no family is at hand", x.uncross(), -1);
        due("draw(8, 1000)", x.draw(8, 1000), 1000);
        due("draw(8, 1)", x.draw(8, 1), -1);
        due("draw(8, 0)", x.draw(8, 0), 1000);
        says("19: the sum may not wrap around");
        due("draw(8, HIGH)", x.draw(8, HIGH), -1);
        due("draw(8, HIGH - 999)", x.draw(8, HIGH - 999), -1);
        due("draw(8, LOW)", x.draw(8, LOW), -1);
        due("draw(8, LOW + 1000)", x.draw(8, LOW + 1000), -1);
        due("draw(8, -1001)", x.draw(8, -1001), -1);
        family(x, 8, 1000);
        loads(x, 0, 0, 1000, 1000);
        due("draw(8, -1000)", x.draw(8, -1000), 0);
        due("draw(8, -1)", x.draw(8, -1), -1);
        family(x);
        loads(x, 0, 0, 0, 0);
        due("the family is still at hand", x.uncross(), 0);
        due("draw(8, 999)", x.draw(8, 999), 999);
        due("draw(8, 2)", x.draw(8, 2), -1);
        due("draw(8, 1)", x.draw(8, 1), 1000);
        due("another side has its own 1000", x.draw(14, 1000), 1000);
    }

    private static void drawAboveThousand() {
        says("19: more than 1000 times after uncross");
        NetBorders x = net(4);
        x.draw(3, 1000);
        x.draw(5, 1000);
        x.draw(1, 2);
        due("uncross()", x.uncross(), 1);
        family(x, 1, 1002, 7, 1000);
        due("draw(1, 0)", x.draw(1, 0), -1);
        due("draw(1, -1)", x.draw(1, -1), -1);
        due("draw(1, -1003)", x.draw(1, -1003), -1);
        family(x, 1, 1002, 7, 1000);
        due("draw(1, -2)", x.draw(1, -2), 1000);
        due("draw(1, -1000)", x.draw(1, -1000), 0);
        family(x, 7, 1000);
    }

    private static void drawWithoutFamily() {
        says("19: in an empty one, of the nodes there are, if none is at hand");
        NetBorders x = net(3);
        due("draw(1, 0)", x.draw(1, 0), 0);
        family(x);
        due("uncross()", x.uncross(), 0);
        due("join(0, 2)", x.join(0, 2), 2);
        due("draw: it is of three nodes", x.draw(1, 1), -1);
        NetBorders none = net(3);
        due("draw that is refused", none.draw(1, -1), -1);
        due("join(0, 2)", none.join(0, 2), 2);
        due("draw: none was made", none.draw(1, 1), 1);
        due("draw in a packing without members", drawAfterEmptyPacking(), 3);
    }

    private static int drawAfterEmptyPacking() {
        NetBorders x = net(2, 0, 1, 0);
        x.packing();
        return x.draw(2, 3);
    }

    private static void drawOtherNodes() {
        says("19: NONE: the family is of another number of nodes");
        NetBorders x = net(5);
        x.draw(1, 1);
        x.join(3, 4);
        due("draw(1, 1)", x.draw(1, 1), -1);
        due("draw(1, -1)", x.draw(1, -1), -1);
        due("draw(2, 0)", x.draw(2, 0), -1);
        family(x, 1, 1);
        x.image(0);
        x.begin(5);
        due("draw once begun anew", x.draw(1, 1), 1);
        x.again(0);
        due("draw in the image's family", x.draw(1, 1), -1);
        NetBorders strong = ring();
        strong.packing();
        strong.join(0, 1);
        due("a family without members has its nodes too", strong.draw(1, 1), -1);
    }

    private static void drawLoads() {
        says("19: LOADS of the ARCS that ENTER it go along");
        NetBorders x = fullNet();
        due("draw(254, 1000)", x.draw(254, 1000), 1000);
        due("draw(4, 7)", x.draw(4, 7), 7);
        loads(x, 1000, 1007, 1000, 1000, 1000, 1000, 1000, 1000, 1007, 1000, 1000, 1000, 1000, 1000, 7, 0);
        due("draw(254, -1000)", x.draw(254, -1000), 0);
        loads(x, 0, 7, 0, 0, 0, 0, 0, 0, 7, 0, 0, 0, 0, 0, 7, 0);
        says("19: a PACKING may be drawn beyond the weights");
        NetBorders light = net(2, 0, 1, 0);
        due("draw(2, 5)", light.draw(2, 5), 5);
        loads(light, 5);
    }

    // Promise 20

    private static void uncrossNone() {
        says("20: NONE: none is at hand");
        due("uncross() of a new object", new NetBorders().uncross(), -1);
        NetBorders x = diamond();
        x.dijoin();
        due("uncross() with a set alone", x.uncross(), -1);
        x.packing();
        due("uncross()", x.uncross(), 0);
        x.begin(4);
        due("uncross() after begin", x.uncross(), -1);
        x.draw(1, 0);
        due("uncross() of an empty one", x.uncross(), 0);
    }

    private static void crossNot(int nodes, int one, int other) {
        NetBorders x = net(nodes);
        x.draw(other, 2);
        x.draw(one, 3);
        due("uncross() of " + one + " and " + other, x.uncross(), 0);
        family(x, one, 3, other, 2);
    }

    private static void crossConditions() {
        says("Terms: two sets CROSS if neither lies within the other");
        crossNot(8, 1, 3);
        crossNot(8, 3, 7);
        crossNot(8, 126, 254);
        crossNot(4, 2, 6);
        says("Terms: .. some node is in both");
        crossNot(4, 1, 2);
        crossNot(8, 3, 12);
        crossNot(8, 15, 112);
        says("Terms: .. and some in none");
        crossNot(3, 3, 6);
        crossNot(4, 7, 11);
        crossNot(8, 127, 254);
        crossNot(4, 3, 12);
        says("Terms: they CROSS with one node in each place");
        NetBorders x = net(4);
        x.draw(6, 1);
        x.draw(3, 1);
        due("uncross()", x.uncross(), 1);
        family(x, 2, 1, 7, 1);
        NetBorders beside = net(4);
        beside.draw(5, 2);
        beside.draw(6, 1);
        due("uncross() of 5 and 6", beside.uncross(), 1);
        family(beside, 4, 1, 5, 1, 7, 1);
        NetBorders wide = net(8);
        wide.draw(126, 1);
        wide.draw(63, 1);
        due("uncross() of eight nodes", wide.uncross(), 1);
        family(wide, 62, 1, 127, 1);
    }

    private static void uncrossTimes() {
        says("Terms: as many times as the rarer of both has go over; who has 0 left is none");
        for (int[] ab : new int[][] {{1, 1000}, {1000, 1}, {999, 1000}, {1000, 1000}, {1, 1}}) {
            NetBorders x = net(4);
            x.draw(3, ab[0]);
            x.draw(5, ab[1]);
            due("uncross()", x.uncross(), 1);
            int moved = Math.min(ab[0], ab[1]);
            if (ab[0] > ab[1]) {
                family(x, 1, moved, 3, ab[0] - moved, 7, moved);
            } else if (ab[1] > ab[0]) {
                family(x, 1, moved, 5, ab[1] - moved, 7, moved);
            } else {
                family(x, 1, moved, 7, moved);
            }
        }
        says("Terms: which are members then, if they were none");
        NetBorders x = net(4);
        x.draw(3, 2);
        x.draw(5, 2);
        x.draw(1, 10);
        x.draw(7, 20);
        due("uncross()", x.uncross(), 1);
        family(x, 1, 12, 7, 22);
    }

    private static void uncrossOrder() {
        says("Terms: the first such by the lesser bits");
        NetBorders x = net(5);
        x.draw(12, 1);
        x.draw(7, 1);
        x.draw(5, 1);
        due("uncross()", x.uncross(), 2);
        family(x, 4, 1, 5, 1, 15, 1);
        says("Terms: .. then by the other's");
        NetBorders other = net(5);
        other.draw(3, 2);
        other.draw(5, 1);
        other.draw(6, 3);
        due("uncross()", other.uncross(), 2);
        family(other, 1, 1, 2, 1, 6, 2, 7, 2);
    }

    private static void uncrossNodes() {
        says("20: among the nodes that there were when it was made");
        NetBorders fewer = net(4);
        fewer.draw(3, 1);
        fewer.draw(6, 1);
        fewer.join(0, 3);
        due("uncross(): they cross in four nodes", fewer.uncross(), 1);
        family(fewer, 2, 1, 7, 1);
        NetBorders gone = net(4);
        gone.draw(3, 1);
        gone.draw(6, 1);
        gone.join(0, 3);
        gone.join(0, 2);
        gone.join(0, 1);
        due("uncross() with one node left", gone.uncross(), 1);
        NetBorders packed = diamond();
        packed.weigh(3, 1000);
        packed.packing();
        packed.join(0, 3);
        due("uncross() of a packing", packed.uncross(), 0);
        says("20: a family of all sets");
        NetBorders all = net(8);
        for (int set = 1; set < 255; set++) {
            all.draw(set, 1);
        }
        due("something crossed", all.uncross() > 0, true);
        due("nothing crosses any more", all.uncross(), 0);
    }

    private static void uncrossLoads() {
        says("20: LOADS are as they were, as ARCS enter what they entered");
        NetBorders x = diamond();
        x.draw(10, 1000);
        x.draw(12, 1000);
        loads(x, 1000, 1000, 1000, 1000);
        due("uncross()", x.uncross(), 1);
        family(x, 8, 1000, 14, 1000);
        loads(x, 1000, 1000, 1000, 1000);
    }

    // Promise 21

    private static void memberBounds() {
        says("21: NONE if there is none such");
        NetBorders x = diamond();
        for (int what = 0; what < 2; what++) {
            due("member(0, " + what + ") without a family", x.member(0, what), -1);
        }
        x.draw(14, 0);
        for (int what = 0; what < 2; what++) {
            due("member(0, " + what + ") of an empty one", x.member(0, what), -1);
        }
        x.draw(14, 5);
        x.draw(8, 6);
        for (int what = 0; what < 2; what++) {
            due("member(2, " + what + ")", x.member(2, what), -1);
            for (int k : NEVER_A_NUMBER) {
                due("member(" + k + ", " + what + ")", x.member(k, what), -1);
            }
        }
        says("21: in order of bits, not as they were drawn");
        due("member(0, 0)", x.member(0, 0), 8);
        due("member(0, 1)", x.member(0, 1), 6);
        due("member(1, 0)", x.member(1, 0), 14);
        due("member(1, 1)", x.member(1, 1), 5);
        says("21: NONE for another what");
        due("member(0, 2)", x.member(0, 2), -1);
        for (int what : NEVER_A_NUMBER) {
            due("member(0, " + what + ")", x.member(0, what), -1);
        }
        NetBorders all = net(8);
        for (int set = 254; set >= 1; set--) {
            all.draw(set, set);
        }
        due("member(253, 0)", all.member(253, 0), 254);
        due("member(253, 1)", all.member(253, 1), 254);
        due("member(254, 0)", all.member(254, 0), -1);
        due("member(0, 0)", all.member(0, 0), 1);
    }

    // Promises 22 and 23

    private static void imageBounds() {
        says("22: true for 0 .. 3; false for another k");
        NetBorders x = diamond();
        due("image(4)", x.image(4), false);
        for (int k : NEVER_A_NUMBER) {
            due("image(" + k + ")", x.image(k), false);
        }
        due("count(7)", x.count(7), 0);
        for (int k = 0; k < 4; k++) {
            due("image(" + k + ")", x.image(k), true);
            due("count(7)", x.count(7), k + 1);
        }
        due("image(4)", x.image(4), false);
        due("image(3) once more", x.image(3), true);
        due("count(7)", x.count(7), 4);
        says("23: false if there is none such");
        NetBorders few = new NetBorders();
        few.image(2);
        few.begin(5);
        for (int k : new int[] {0, 1, 3, 4}) {
            due("again(" + k + ")", few.again(k), false);
        }
        for (int k : NEVER_A_NUMBER) {
            due("again(" + k + ")", few.again(k), false);
        }
        due("count(0)", few.count(0), 5);
        due("again(2)", few.again(2), true);
        due("count(0)", few.count(0), 1);
    }

    private static void imageIsAsItWas() {
        says("22: all that is told, as it is now");
        NetBorders x = diamond();
        x.image(0);
        x.dijoin();
        x.image(1);
        x.packing();
        x.image(2);
        x.drop(0);
        x.join(1, 0);
        x.weigh(0, 77);
        x.turn(1);
        x.image(3);
        x.begin(8);
        int[] nodes = {4, 4, 4, 3};
        int[] arcs = {4, 4, 4, 3};
        int[] set = {0, 10, 10, 10};
        int[] members = {0, 0, 2, 2};
        for (int k : new int[] {2, 0, 3, 1, 3, 0}) {
            due("again(" + k + ")", x.again(k), true);
            due("count(0)", x.count(0), nodes[k]);
            due("count(1)", x.count(1), arcs[k]);
            due("chosen()", x.chosen(), set[k]);
            due("count(6)", x.count(6), members[k]);
            due("tell(0, 2)", x.tell(0, 2), k == 3 ? 77 : 3);
            due("tell(2, 3)", x.tell(2, 3), members[k] == 0 ? 0 : 3);
            due("uncross()", x.uncross(), members[k] == 0 ? -1 : 0);
            due("count(7)", x.count(7), 4);
        }
    }

    private static void imagesStandAlone() {
        says("23: other images stay, and the image itself");
        NetBorders x = net(2, 0, 1, 5);
        x.image(0);
        x.weigh(0, 6);
        x.image(1);
        due("again(0)", x.again(0), true);
        x.weigh(0, 7);
        x.draw(2, 9);
        due("again(1)", x.again(1), true);
        due("tell(0, 2)", x.tell(0, 2), 6);
        due("count(6)", x.count(6), 0);
        due("again(0)", x.again(0), true);
        due("tell(0, 2)", x.tell(0, 2), 5);
        due("uncross()", x.uncross(), -1);
        due("tell(0, 3)", x.tell(0, 3), 0);
        due("again(2)", x.again(2), false);
        due("count(7)", x.count(7), 2);
        says("22: an image may be made anew, of an image too");
        due("again(1)", x.again(1), true);
        due("image(0)", x.image(0), true);
        due("weigh(0, 8)", x.weigh(0, 8), 6);
        due("again(0)", x.again(0), true);
        due("tell(0, 2)", x.tell(0, 2), 6);
        says("22: each ARC with TAIL, HEAD and weight");
        NetBorders ends = net(4, 0, 1, 2, 2, 3, 4);
        ends.image(0);
        ends.begin(4);
        ends.arc(3, 2, 5);
        ends.arc(1, 0, 6);
        ends.image(1);
        ends.again(0);
        arcIs(ends, 0, 0, 1, 2);
        arcIs(ends, 1, 2, 3, 4);
        ends.again(1);
        arcIs(ends, 0, 3, 2, 5);
        arcIs(ends, 1, 1, 0, 6);
        says("22: of the full net and of the empty one");
        NetBorders full = fullNet();
        full.image(3);
        full.begin(1);
        full.image(2);
        full.again(3);
        arcIs(full, 15, 7, 7, 1000);
        due("a 17th arc", full.arc(0, 0, 0), -1);
        full.again(2);
        due("count(0)", full.count(0), 1);
        due("count(1)", full.count(1), 0);
    }

    // 512 calls

    private static void lastCall() {
        says("An object is used for at most 512 calls: the last one too");
        NetBorders x = new NetBorders();
        x.begin(4);
        x.arc(0, 1, 3);
        x.arc(0, 2, 2);
        x.arc(1, 3, 4);
        x.arc(2, 3, 1);
        for (int call = 5; call < 508; call++) {
            x.image(call % 4);
        }
        due("call 509", x.packing(), 3);
        due("call 510", x.uncross(), 0);
        due("call 511", x.dijoin(), 3);
        due("call 512", x.chosen(), 10);
    }

    private static void netTests() {
        termsNet();
        termsWholeAndStrong();
        termsParts();
        termsSides();
        newObject();
        newObjectHasNothingAtHand();
        beginBounds();
        beginLeavesNothingAtHand();
        beginLeavesImages();
        arcSixteen();
        arcNodes();
        arcWeights();
        dropNumbersAnew();
        dropNoneSuch();
        weighBounds();
        turnBounds();
        joinNumbersAnew();
        joinNoneSuch();
        joinLeavesWhatIsAtHand();
    }

    private static void askingTests() {
        tellBounds();
        tellWithout();
        tellByNumbersAsTheyWere();
        nodeBounds();
        nodeFull();
        nodeAtOnce();
        countBounds();
        countAtHand();
        sideBounds();
        boundsEntersNone();
        boundsFarApart();
        isDijoinBounds();
        isStrongBounds();
    }

    private static void dijoinAndFamilyTests() {
        termsLeast();
        termsGreatest();
        dijoinBounds();
        dijoinHeaviest();
        chosenAsItWas();
        costBounds();
        costOnlyAsks();
        costNoDijoin();
        packingBounds();
        packingAtItsMost();
        drawNoSide();
        drawTimes();
        drawAboveThousand();
        drawWithoutFamily();
        drawOtherNodes();
        drawLoads();
        uncrossNone();
        crossConditions();
        uncrossTimes();
        uncrossOrder();
        uncrossNodes();
        uncrossLoads();
        memberBounds();
    }

    public static void main(String[] args) {
        netTests();
        askingTests();
        dijoinAndFamilyTests();
        imageBounds();
        imageIsAsItWas();
        imagesStandAlone();
        lastCall();
        System.out.println("BoundaryTests: " + checks + " checks, " + wrong + " wrong");
        if (wrong != 0) {
            System.exit(1);
        }
    }
}
