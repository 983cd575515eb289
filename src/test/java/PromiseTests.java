/** Each promise of the document on nets small enough to be gone through by hand. */
public final class PromiseTests {
    private static final int LOW = Integer.MIN_VALUE;
    private static final int HIGH = Integer.MAX_VALUE;

    private static int checks = 0;
    private static int wrong = 0;

    private static void due(String what, long got, long want) {
        checks++;
        if (got != want) {
            wrong++;
            System.out.println(what + " answered " + got + ", due is " + want);
        }
    }

    private static void due(String what, boolean got, boolean want) {
        due(what, got ? 1 : 0, want ? 1 : 0);
    }

    private static NetBorders net(int nodes, int... arcs) {
        NetBorders x = new NetBorders();
        x.begin(nodes);
        for (int i = 0; i < arcs.length; i += 3) {
            due("arc while a net is laid", x.arc(arcs[i], arcs[i + 1], arcs[i + 2]), i / 3);
        }
        return x;
    }

    /** 0 to 3 by way of 1 (arcs 0, 2) or of 2 (arcs 1, 3); sides 8, 10, 12, 14. */
    private static NetBorders diamond() {
        return net(4, 0, 1, 3, 0, 2, 2, 1, 3, 4, 2, 3, 1);
    }

    private static void family(String what, NetBorders x, int... setsAndTimes) {
        due(what + ": members", x.count(6), setsAndTimes.length / 2);
        for (int k = 0; k < setsAndTimes.length / 2; k++) {
            due(what + ": member " + k, x.member(k, 0), setsAndTimes[2 * k]);
            due(what + ": times " + k, x.member(k, 1), setsAndTimes[2 * k + 1]);
        }
        due(what + ": no more members", x.member(setsAndTimes.length / 2, 0), -1);
    }

    private static void loads(String what, NetBorders x, int... want) {
        for (int a = 0; a < want.length; a++) {
            due(what + ": load of arc " + a, x.tell(a, 3), want[a]);
        }
    }

    private static void promise1NewObject() {
        NetBorders x = new NetBorders();
        due("new: nodes", x.count(0), 1);
        due("new: arcs", x.count(1), 0);
        due("new: parts", x.count(2), 1);
        due("new: whole", x.count(3), 1);
        due("new: strong", x.count(4), 1);
        due("new: sides", x.count(5), 0);
        due("new: members", x.count(6), 0);
        due("new: images", x.count(7), 0);
        due("new: chosen", x.chosen(), 0);
        due("new: uncross", x.uncross(), -1);
        due("new: again", x.again(0), false);
        due("new: isDijoin", x.isDijoin(0), true);
        due("new: dijoin", x.dijoin(), 0);
        due("new: packing", x.packing(), 0);
        due("new: uncross of an empty family", x.uncross(), 0);
        due("NONE", NetBorders.NONE, -1);
    }

    private static void promise2Begin() {
        NetBorders x = diamond();
        x.dijoin();
        x.packing();
        x.image(2);
        for (int n : new int[] {0, 9, -1, LOW, HIGH}) {
            due("begin(" + n + ")", x.begin(n), false);
        }
        due("begin refused: nodes", x.count(0), 4);
        due("begin refused: arcs", x.count(1), 4);
        due("begin refused: chosen", x.chosen(), 10);
        due("begin refused: members", x.count(6), 2);
        due("begin(8)", x.begin(8), true);
        due("begin: nodes", x.count(0), 8);
        due("begin: arcs", x.count(1), 0);
        due("begin: sides", x.count(5), 254);
        due("begin: chosen", x.chosen(), 0);
        due("begin: members", x.count(6), 0);
        due("begin: uncross", x.uncross(), -1);
        due("begin: images stay", x.count(7), 1);
        x.arc(0, 1, 5);
        due("begin: load", x.tell(0, 3), 0);
        due("begin(1)", x.begin(1), true);
        due("begin: again", x.again(2), true);
        due("begin: as the image has it", x.count(0), 4);
    }

    private static void promise3Arc() {
        NetBorders x = new NetBorders();
        x.begin(3);
        int[][] refused = {{-1, 0, 1}, {3, 0, 1}, {0, -1, 1}, {0, 3, 1}, {0, 1, -1}, {0, 1, 1001},
            {LOW, 0, 1}, {0, HIGH, 1}, {0, 1, LOW}, {0, 1, HIGH}};
        for (int[] one : refused) {
            due("arc refused", x.arc(one[0], one[1], one[2]), -1);
        }
        due("arc refused: arcs", x.count(1), 0);
        due("arc of one node", x.arc(2, 2, 0), 0);
        due("arc of weight 1000", x.arc(0, 2, 1000), 1);
        for (int a = 2; a < 16; a++) {
            due("arcs alike", x.arc(0, 1, a), a);
        }
        due("a 17th arc", x.arc(0, 1, 1), -1);
        due("arcs", x.count(1), 16);
        due("last arc", x.tell(15, 2), 15);
    }

    private static void promise4Drop() {
        NetBorders x = diamond();
        for (int a : new int[] {-1, 4, LOW, HIGH}) {
            due("drop(" + a + ")", x.drop(a), -1);
        }
        x.dijoin();
        x.packing();
        due("drop(1)", x.drop(1), 3);
        due("drop: numbered anew", x.tell(1, 0) * 100 + x.tell(1, 1) * 10 + x.tell(1, 2), 134);
        due("drop: numbered anew", x.tell(2, 0) * 100 + x.tell(2, 1) * 10 + x.tell(2, 2), 231);
        due("drop: none such", x.tell(3, 0), -1);
        due("drop: the set stays as it was numbered", x.chosen(), 10);
        due("drop: in the set by the old number", x.tell(1, 4), 1);
        loads("drop: by the old numbers", x, 0, 2, 3);
        due("drop(2)", x.drop(2), 2);
        due("drop(0)", x.drop(0), 1);
        due("drop(0)", x.drop(0), 0);
        due("drop(0) of none", x.drop(0), -1);
    }

    private static void promise5Weigh() {
        NetBorders x = diamond();
        due("weigh", x.weigh(2, 1000), 4);
        due("weigh", x.weigh(2, 0), 1000);
        due("weigh: 1001", x.weigh(2, 1001), -1);
        due("weigh: -1", x.weigh(2, -1), -1);
        due("weigh: no arc", x.weigh(4, 1), -1);
        due("weigh: no arc", x.weigh(-1, 1), -1);
        due("weigh: as it is", x.tell(2, 2), 0);
        due("weigh: others stay", x.tell(1, 2), 2);
    }

    private static void promise6Turn() {
        NetBorders x = diamond();
        due("turn", x.turn(0), true);
        due("turn: tail", x.tell(0, 0), 1);
        due("turn: head", x.tell(0, 1), 0);
        due("turn: weight", x.tell(0, 2), 3);
        due("turn: sides", x.count(5), 3);
        due("turn: no arc", x.turn(4), false);
        due("turn: no arc", x.turn(-1), false);
        due("turn: no arc", x.turn(HIGH), false);
    }

    private static void promise7Join() {
        NetBorders x = diamond();
        for (int[] ab : new int[][] {{0, 4}, {4, 0}, {-1, 0}, {0, -1}, {2, 2}, {LOW, HIGH}}) {
            due("join refused", x.join(ab[0], ab[1]), -1);
        }
        due("join refused: nodes", x.count(0), 4);
        due("join(3, 1)", x.join(3, 1), 3);
        int[] due = {0, 2, 0, 1, 2, 2, 1, 2};
        for (int a = 0; a < 4; a++) {
            due("join: tail of " + a, x.tell(a, 0), due[2 * a]);
            due("join: head of " + a, x.tell(a, 1), due[2 * a + 1]);
        }
        due("join(0, 2)", x.join(0, 2), 2);
        due("join: strong", x.count(4), 1);
        due("join(1, 0)", x.join(1, 0), 1);
        due("join: tail", x.tell(1, 0), 0);
        due("join of the last", x.join(0, 0), -1);
        due("join: arcs stay", x.count(1), 4);
    }

    private static void promise8Tell() {
        NetBorders x = diamond();
        for (int what = 3; what < 5; what++) {
            due("tell without a set, a family", x.tell(1, what), 0);
        }
        x.dijoin();
        x.packing();
        int[] due = {0, 2, 2, 2, 1};
        for (int what = 0; what < 5; what++) {
            due("tell(1, " + what + ")", x.tell(1, what), due[what]);
        }
        due("tell: not in the set", x.tell(2, 4), 0);
        for (int what : new int[] {-1, 5, LOW, HIGH}) {
            due("tell: another what", x.tell(1, what), -1);
        }
        for (int a : new int[] {-1, 4, LOW, HIGH}) {
            due("tell: no arc", x.tell(a, 0), -1);
            due("tell: no arc", x.tell(a, 3), -1);
        }
        x.arc(0, 3, 7);
        due("tell: a later arc's load", x.tell(4, 3), 0);
        due("tell: a later arc", x.tell(4, 4), 0);
    }

    private static void promise9Node() {
        NetBorders x = net(6, 4, 2, 0, 2, 3, 0, 3, 4, 0, 4, 5, 0, 1, 1, 0);
        int[][] due = {{0, 0, 1, 1}, {1, 1, 2, 2}, {2, 2, 60, 28}, {2, 2, 60, 28}, {2, 2, 60, 28},
            {5, 2, 32, 60}};
        for (int v = 0; v < 6; v++) {
            for (int what = 0; what < 4; what++) {
                due("node(" + v + ", " + what + ")", x.node(v, what), due[v][what]);
            }
            due("node: another what", x.node(v, 4), -1);
            due("node: another what", x.node(v, -1), -1);
        }
        for (int v : new int[] {-1, 6, LOW, HIGH}) {
            due("node: none such", x.node(v, 0), -1);
        }
    }

    private static void promise10Count() {
        NetBorders x = net(6, 4, 2, 0, 2, 3, 0, 3, 4, 0, 4, 5, 0, 1, 1, 0);
        x.draw(32, 2);
        x.draw(1, 1);
        x.draw(2, 0);
        x.image(3);
        x.image(0);
        x.image(3);
        int[] due = {6, 5, 4, 0, 0, 10, 2, 2};
        for (int what = 0; what < 8; what++) {
            due("count(" + what + ")", x.count(what), due[what]);
        }
        for (int what : new int[] {-1, 8, LOW, HIGH}) {
            due("count: another what", x.count(what), -1);
        }
        NetBorders ring = net(3, 0, 1, 0, 1, 2, 0);
        due("a way: whole", ring.count(3), 1);
        due("a way: strong", ring.count(4), 0);
        ring.arc(2, 0, 0);
        due("a ring: strong", ring.count(4), 1);
        due("a ring: parts", ring.count(2), 1);
        due("a ring: sides", ring.count(5), 0);
    }

    private static void promise11Side() {
        NetBorders x = diamond();
        int[][] due = {{8, 12}, {10, 9}, {12, 6}, {14, 3}};
        for (int k = 0; k < 4; k++) {
            due("side(" + k + ", 0)", x.side(k, 0), due[k][0]);
            due("side(" + k + ", 1)", x.side(k, 1), due[k][1]);
            due("side: another what", x.side(k, 2), -1);
            due("side: another what", x.side(k, -1), -1);
        }
        for (int k : new int[] {-1, 4, LOW, HIGH}) {
            due("side: none such", x.side(k, 0), -1);
            due("side: none such", x.side(k, 1), -1);
        }
        due("side without a border", net(2).side(0, 1), 0);
    }

    private static void promise12Bounds() {
        NetBorders x = diamond();
        int[][] due = {{10, 14}, {12, 14}, {8, 12}, {8, 10}};
        for (int a = 0; a < 4; a++) {
            due("bounds(" + a + ", false)", x.bounds(a, false), due[a][0]);
            due("bounds(" + a + ", true)", x.bounds(a, true), due[a][1]);
        }
        for (int a : new int[] {-1, 4, LOW, HIGH}) {
            due("bounds: no arc", x.bounds(a, true), 0);
            due("bounds: no arc", x.bounds(a, false), 0);
        }
        x.arc(1, 1, 0);
        due("bounds of an arc of one node", x.bounds(4, true), 0);
        x.arc(3, 0, 0);
        due("bounds in a ring", x.bounds(0, false), 0);
    }

    private static void promises13And14Sets() {
        NetBorders x = diamond();
        boolean[] due = {false, false, false, false, false, true, false, true,
            false, false, true, true, false, true, true, true};
        for (int set = 0; set < 16; set++) {
            due("isDijoin(" + set + ")", x.isDijoin(set), due[set]);
            due("isStrong(" + set + ")", x.isStrong(set), due[set]);
            due("isDijoin with more bits", x.isDijoin(set | 0xFFFFFFF0), due[set]);
            due("isStrong with more bits", x.isStrong(set | 0xFFFFFFF0), due[set]);
        }
        due("isStrong changes nothing", x.count(4), 0);
        NetBorders apart = net(3, 0, 1, 1);
        due("isDijoin: not whole", apart.isDijoin(-1), false);
        due("isStrong: not whole", apart.isStrong(-1), false);
        NetBorders ring = net(2, 0, 1, 1, 1, 0, 1);
        due("isDijoin: strong", ring.isDijoin(0), true);
        due("isStrong: strong", ring.isStrong(0), true);
    }

    private static void promises15And16Dijoin() {
        NetBorders x = diamond();
        due("chosen without", x.chosen(), 0);
        due("dijoin", x.dijoin(), 3);
        due("chosen", x.chosen(), 10);
        x.weigh(3, 5);
        due("chosen stays", x.chosen(), 10);
        due("dijoin: of one weight the least bits", x.dijoin(), 7);
        due("chosen: of one weight the least bits", x.chosen(), 5);
        x.begin(3);
        x.arc(0, 1, 1);
        due("dijoin: not whole", x.dijoin(), -1);
        due("chosen after it", x.chosen(), 0);
        x.arc(0, 1, 0);
        x.arc(1, 2, 0);
        x.arc(1, 2, 0);
        x.arc(2, 2, 0);
        due("dijoin of weight 0", x.dijoin(), 0);
        due("chosen of weight 0", x.chosen(), 6);
        x.drop(2);
        x.drop(2);
        due("dijoin: not whole any more", x.dijoin(), -1);
        due("chosen: the set that was", x.chosen(), 6);
        NetBorders star = new NetBorders();
        star.begin(8);
        for (int a = 0; a < 14; a++) {
            star.arc(0, 1 + a % 7, 1000);
        }
        due("dijoin of a star", star.dijoin(), 7000);
        due("chosen of a star", star.chosen(), 127);
    }

    private static void promise17Cost() {
        NetBorders x = diamond();
        due("cost(3, -1)", x.cost(3, -1), 7);
        due("cost(3, 1000)", x.cost(3, 1000), 7);
        due("cost(3, 0)", x.cost(3, 0), 2);
        due("cost(0, 0)", x.cost(0, 0), 3);
        due("cost(0, -1)", x.cost(0, -1), 3);
        due("cost: 1001", x.cost(0, 1001), -1);
        due("cost: -2", x.cost(0, -2), -1);
        due("cost: no arc", x.cost(4, 1), -1);
        due("cost: no arc", x.cost(-1, 1), -1);
        due("cost: the weight stays", x.tell(3, 2), 1);
        due("cost: no set at hand", x.chosen(), 0);
        due("cost: no family at hand", x.uncross(), -1);
        NetBorders way = net(2, 0, 1, 4);
        due("cost: no dijoin without it", way.cost(0, -1), -1);
        due("cost: 9", way.cost(0, 9), 9);
        due("cost: not whole", net(3, 0, 1, 4).cost(0, 1), -1);
        due("cost in a ring", net(2, 0, 1, 4, 1, 0, 3).cost(0, -1), 0);
    }

    private static void promise18Packing() {
        NetBorders x = diamond();
        due("packing", x.packing(), 3);
        family("packing", x, 8, 1, 12, 2);
        loads("packing", x, 0, 2, 3, 1);
        x.weigh(2, 2);
        loads("packing: loads stay", x, 0, 2, 3, 1);
        due("packing anew", x.packing(), 3);
        family("packing anew", x, 8, 1, 12, 1, 14, 1);
        loads("packing anew", x, 1, 2, 2, 1);
        x.begin(3);
        x.draw(4, 2);
        due("packing: not whole", x.packing(), -1);
        family("packing: the family that was", x, 4, 2);
        NetBorders star = new NetBorders();
        star.begin(8);
        for (int v = 1; v < 8; v++) {
            star.arc(0, v, 1000 - v);
        }
        due("packing of a star", star.packing(), 6972);
        family("packing of a star", star, 2, 999, 4, 998, 8, 997, 16, 996, 32, 995, 64, 994, 128, 993);
    }

    private static void promise19Draw() {
        NetBorders x = diamond();
        for (int set : new int[] {0, 15, 2, 16, 24, -8, LOW, HIGH}) {
            due("draw: no side", x.draw(set, 1), -1);
        }
        due("draw: below 0", x.draw(8, -1), -1);
        due("draw: more than 1000", x.draw(8, 1001), -1);
        due("draw: none is at hand yet", x.uncross(), -1);
        due("draw 0 times", x.draw(8, 0), 0);
        due("draw: an empty one is at hand", x.uncross(), 0);
        due("draw", x.draw(8, 1000), 1000);
        due("draw: 1001", x.draw(8, 1), -1);
        due("draw: far too many", x.draw(8, HIGH), -1);
        due("draw: far too few", x.draw(8, LOW), -1);
        due("draw: fewer", x.draw(8, -998), 2);
        due("draw", x.draw(14, 3), 3);
        family("draw", x, 8, 2, 14, 3);
        loads("draw", x, 3, 3, 2, 2);
        due("draw: all away", x.draw(8, -2), 0);
        family("draw: all away", x, 14, 3);
        loads("draw: all away", x, 3, 3, 0, 0);
        x.packing();
        due("draw beside a packing", x.draw(12, 1), 3);
        loads("draw beside a packing", x, 0, 3, 4, 1);
        x.drop(1);
        due("draw by the arcs as they are", x.draw(12, -3), 0);
        loads("draw by the arcs as they are", x, 0, 0, 4);
        x.join(0, 1);
        due("draw: of another number of nodes", x.draw(4, 1), -1);
        due("draw: the family stays", x.count(6), 1);
        due("draw: not whole either", net(3).draw(5, 7), 7);
    }

    private static void promise20Uncross() {
        NetBorders x = diamond();
        x.draw(10, 3);
        x.draw(12, 2);
        due("uncross", x.uncross(), 1);
        family("uncross", x, 8, 2, 10, 1, 14, 2);
        loads("uncross", x, 3, 2, 2, 3);
        due("uncross again", x.uncross(), 0);
        x.begin(4);
        x.draw(3, 1000);
        x.draw(5, 1000);
        x.draw(1, 1);
        x.draw(8, 4);
        due("uncross beyond 1000", x.uncross(), 1);
        family("uncross beyond 1000", x, 1, 1001, 7, 1000, 8, 4);
        due("draw above 1000", x.draw(1, 0), -1);
        due("draw down to 1000", x.draw(1, -1), 1000);
        x.begin(3);
        x.draw(3, 1);
        x.draw(6, 1);
        due("uncross: in any are all nodes", x.uncross(), 0);
        x.begin(4);
        x.draw(3, 1);
        x.draw(6, 1);
        due("join", x.join(0, 3), 3);
        due("uncross among the nodes there were", x.uncross(), 1);
        family("uncross among the nodes there were", x, 2, 1, 7, 1);
        x.begin(5);
        x.draw(3, 2);
        x.draw(5, 1);
        x.draw(6, 3);
        due("uncross: the first pair first", x.uncross(), 2);
        family("uncross: the first pair first", x, 1, 1, 2, 1, 6, 2, 7, 2);
    }

    private static void promise21Member() {
        NetBorders x = diamond();
        due("member without a family", x.member(0, 0), -1);
        x.draw(14, 5);
        x.draw(8, 6);
        family("member", x, 8, 6, 14, 5);
        for (int k : new int[] {-1, 2, LOW, HIGH}) {
            due("member: none such", x.member(k, 0), -1);
            due("member: none such", x.member(k, 1), -1);
        }
        for (int what : new int[] {-1, 2, LOW, HIGH}) {
            due("member: another what", x.member(0, what), -1);
        }
    }

    private static void promises22And23Images() {
        NetBorders x = diamond();
        for (int k : new int[] {-1, 4, LOW, HIGH}) {
            due("image(" + k + ")", x.image(k), false);
            due("again(" + k + ")", x.again(k), false);
        }
        due("again: none such", x.again(1), false);
        x.dijoin();
        x.packing();
        due("image(1)", x.image(1), true);
        due("image(0)", x.image(0), true);
        x.begin(2);
        x.arc(0, 1, 9);
        due("image(0) anew", x.image(0), true);
        due("again(1)", x.again(1), true);
        due("again: nodes", x.count(0), 4);
        due("again: arcs", x.count(1), 4);
        due("again: images", x.count(7), 2);
        due("again: chosen", x.chosen(), 10);
        family("again", x, 8, 1, 12, 2);
        loads("again", x, 0, 2, 3, 1);
        due("again: drawn on", x.draw(12, 1), 3);
        x.weigh(0, 8);
        x.turn(0);
        due("again(1) once more", x.again(1), true);
        due("again: the image was not drawn on", x.member(1, 1), 2);
        due("again: its load", x.tell(2, 3), 3);
        due("again: its weight", x.tell(0, 2), 3);
        due("again: its tail", x.tell(0, 0), 0);
        due("again(0)", x.again(0), true);
        due("again(0): nodes", x.count(0), 2);
        due("again(0): no set", x.chosen(), 0);
        due("again(0): no family", x.uncross(), -1);
        due("again(0): no load", x.tell(0, 3), 0);
        due("again(2): none such", x.again(2), false);
        due("again(2) changed nothing", x.count(0), 2);
    }

    public static void main(String[] args) {
        promise1NewObject();
        promise2Begin();
        promise3Arc();
        promise4Drop();
        promise5Weigh();
        promise6Turn();
        promise7Join();
        promise8Tell();
        promise9Node();
        promise10Count();
        promise11Side();
        promise12Bounds();
        promises13And14Sets();
        promises15And16Dijoin();
        promise17Cost();
        promise18Packing();
        promise19Draw();
        promise20Uncross();
        promise21Member();
        promises22And23Images();
        System.out.println("PromiseTests: " + checks + " checks, " + wrong + " wrong");
        if (wrong != 0) {
            System.exit(1);
        }
    }
}
