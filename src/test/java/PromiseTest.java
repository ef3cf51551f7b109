/** For each promise of the document: ordinary inputs, its edges, and wrong inputs; answers found by hand. */
public final class PromiseTest extends TestKit {
    private static void newObject() {
        int[] sizes = {Integer.MIN_VALUE, -1, 0, 1, 2, 15, 16, 17, Integer.MAX_VALUE};
        int[] sides = {1, 1, 1, 1, 2, 15, 16, 16, 16};
        int[] layers = {1, 1, 1, 1, 2, 4, 4, 4, 4};
        for (int s = 0; s < sizes.length; s++) {
            GridRipUp wide = new GridRipUp(sizes[s], 1, 1, 5);
            GridRipUp tall = new GridRipUp(1, sizes[s], 1, 5);
            GridRipUp deep = new GridRipUp(1, 1, sizes[s], 5);
            int side = sides[s];
            int layer = layers[s];
            due("last i", wide.history(0, side - 1, 0), 0);
            dueIndex("i behind the last", () -> wide.history(0, side, 0));
            due("last j", tall.history(0, 0, side - 1), 0);
            dueIndex("j behind the last", () -> tall.history(0, 0, side));
            due("last layer", deep.history(layer - 1, 0, 0), 0);
            dueIndex("layer behind the last", () -> deep.history(layer, 0, 0));
        }
        GridRipUp g = new GridRipUp(2, 3, 4, 0);
        due("open(0)", g.open(0), NONE);
        due("round()", g.round(), 0);
        dueIndex("joined(0)", () -> g.joined(0));
        due("run(20)", g.run(20), 0);
        for (int cell = 0; cell < 24; cell++) {
            due("bar of each cell", g.bar(cell / 6, cell % 2, cell / 2 % 3), true);
        }
        due("NONE", GridRipUp.NONE, -1);
    }

    private static void bar() {
        GridRipUp g = grid(3, 2, 2, 0, pins(0, 0, 0, 0, 2, 0));
        due("a free cell", g.bar(1, 1, 1), true);
        due("a barred cell", g.bar(1, 1, 1), false);
        due("an open net's pin", g.bar(0, 0, 0), false);
        due("run", g.run(1), 0);
        due("a led net's way", g.bar(0, 1, 0), false);
        due("a barred cell refuses a pin", g.pin(0, 1, 1, 1), false);
        due("a cell that was held only before", g.pin(0, 0, 2, 1), true);
        due("is free again", g.bar(0, 1, 0), true);
        dueIndex("layer -1", () -> g.bar(-1, 0, 0));
        dueIndex("layer 2", () -> g.bar(2, 0, 0));
        dueIndex("i -1", () -> g.bar(0, -1, 0));
        dueIndex("i 3", () -> g.bar(0, 3, 0));
        dueIndex("j -1", () -> g.bar(0, 0, -1));
        dueIndex("j 2", () -> g.bar(0, 0, 2));
        dueIndex("far out", () -> g.bar(Integer.MAX_VALUE, Integer.MIN_VALUE, Integer.MAX_VALUE));
        GridRipUp around = grid(3, 3, 1, 0, pins(0, 0, 0, 0, 2, 0));
        due("bar in the way", around.bar(0, 1, 0), true);
        due("bar in the way", around.bar(0, 1, 1), true);
        around.run(1);
        due("the way round", way(around, 0), "000 020 021 022 012 002 001");
        GridRipUp shut = grid(3, 1, 1, 0, pins(0, 0, 0, 0, 2, 0));
        shut.bar(0, 1, 0);
        due("no way, by ripping neither", shut.run(2), 1);
        due("a bar is no net", blockers(shut, 0), "");
    }

    private static void net() {
        GridRipUp g = new GridRipUp(4, 4, 1, 0);
        for (int n = 0; n < 12; n++) {
            due("net()", g.net(), n);
            due("no pins: not led", g.joined(n), false);
            due("no pins: not open", g.open(0), NONE);
        }
        due("the 13th", g.net(), NONE);
        due("the 14th", g.net(), NONE);
        due("net 11", g.joined(11), false);
        dueIndex("net 12", () -> g.joined(12));
        due("run", g.run(3), 0);
        due("no round", g.round(), 0);
    }

    private static void pin() {
        GridRipUp g = grid(6, 2, 1, 0, pins(0, 0, 0, 0, 2, 0), pins(0, 5, 0));
        g.bar(0, 5, 1);
        due("led", g.run(1), 0);
        due("a barred cell", g.pin(0, 0, 5, 1), false);
        due("its own pin", g.pin(0, 0, 2, 0), false);
        due("another's pin", g.pin(0, 0, 5, 0), false);
        due("another's way", g.pin(1, 0, 1, 0), false);
        due("nothing changed", way(g, 0) + " " + g.joined(1), "000 020 010 true");
        due("its own way", g.pin(0, 0, 1, 0), true);
        due("open then", g.joined(0) + " " + g.open(0) + " " + g.costOf(0), "false 0 -1");
        due("led again", g.run(1), 0);
        due("by each pin", way(g, 0), "000 010 020");
        due("a far pin", g.pin(0, 0, 4, 0), true);
        due("its way is free", g.pin(1, 0, 3, 0), true);
        due("a fifth", g.pin(0, 0, 0, 1), true);
        due("a sixth", g.pin(0, 0, 1, 1), false);
        due("is not taken", g.bar(0, 1, 1), true);
        dueIndex("net -1", () -> g.pin(-1, 0, 0, 0));
        dueIndex("net 2", () -> g.pin(2, 0, 0, 0));
        dueIndex("layer 1", () -> g.pin(0, 1, 0, 0));
        dueIndex("layer -1", () -> g.pin(0, -1, 0, 0));
        dueIndex("i 6", () -> g.pin(0, 0, 6, 0));
        dueIndex("j 2", () -> g.pin(0, 0, 0, 2));
        GridRipUp full = grid(6, 1, 1, 0, pins(0, 0, 0, 0, 1, 0, 0, 2, 0, 0, 3, 0, 0, 4, 0));
        full.run(1);
        due("a led net's sixth", full.pin(0, 0, 5, 0), false);
        due("leaves it led", full.joined(0), true);
    }

    private static void cost() {
        GridRipUp g = new GridRipUp(2, 2, 3, 0);
        due("all 0 at first", g.cost(0, 0, 0, 0), false);
        due("across", g.cost(0, 1, 0, 0), true);
        due("via", g.cost(0, 1, 1, 0), true);
        due("near", g.cost(0, 1, 1, 1), true);
        due("the same", g.cost(0, 1, 1, 1), false);
        due("another layer", g.cost(1, 1, 1, 1), true);
        due("the greatest", g.cost(2, 50, 50, 50), true);
        dueIndex("layer 3", () -> g.cost(3, 0, 0, 0));
        dueIndex("layer -1", () -> g.cost(-1, 0, 0, 0));
        dueArgument("across 51", () -> g.cost(2, 51, 0, 0));
        dueArgument("via 51", () -> g.cost(2, 0, 51, 0));
        dueArgument("near 51", () -> g.cost(2, 0, 0, 51));
        dueArgument("across -1", () -> g.cost(2, -1, 0, 0));
        dueArgument("via -1", () -> g.cost(2, 0, -1, 0));
        dueArgument("near -1", () -> g.cost(2, 0, 0, -1));
        dueIndex("layer first", () -> g.cost(3, 51, -1, 51));
        due("a refused one changes nothing", g.cost(2, 50, 50, 50), false);
        for (int layer = 0; layer < 4; layer++) {
            due("along i on layer " + layer, priceOf(2, 1, 4, layer, 0, 0, layer, 1, 0), layer % 2 == 0 ? 2 : 13 + layer);
            due("along j on layer " + layer, priceOf(1, 2, 4, layer, 0, 0, layer, 0, 1), layer % 2 == 0 ? 13 + layer : 2);
        }
        for (int layer = 0; layer < 3; layer++) {
            due("up from " + layer, priceOf(1, 1, 4, layer, 0, 0, layer + 1, 0, 0), 33 + layer);
            due("down to " + layer, priceOf(1, 1, 4, layer + 1, 0, 0, layer, 0, 0), 33 + layer);
        }
    }

    /** What a net of two pins costs where ACROSS is 11 and VIA 31 more than the layer's number. */
    private static long priceOf(int x, int y, int layers, int... pins) {
        GridRipUp g = grid(x, y, layers, 0, pins);
        for (int l = 0; l < layers; l++) {
            g.cost(l, 11 + l, 31 + l, 0);
        }
        g.run(1);
        return g.costOf(0);
    }

    private static void run() {
        GridRipUp g = grid(3, 1, 1, 0, pins(0, 0, 0, 0, 2, 0), pins(0, 1, 0));
        dueArgument("0 rounds", () -> g.run(0));
        dueArgument("-1 rounds", () -> g.run(-1));
        dueArgument("21 rounds", () -> g.run(21));
        due("no round by those", g.round(), 0);
        due("1 round", g.run(1), 1);
        due("20 rounds", g.run(20), 1);
        due("round()", g.round(), 21);
        GridRipUp short1 = grid(4, 4, 1, 0, pins(0, 0, 0, 0, 3, 3), pins(0, 0, 1));
        due("20 rounds", short1.run(20), 0);
        due("one was enough", short1.round(), 1);
        runOrders();
        runFirstPinOfSeveral();
        runFreeBeforeRipping();
    }

    /** All but a cell and its six neighbours is barred: of three nets through it the last one stays. */
    private static void runOrders() {
        long[] seeds = {0, 1, 2, 3, -1, Long.MAX_VALUE, Long.MIN_VALUE};
        int[] last = {2, 2, 1, 2, 1, 0, 0};
        for (int s = 0; s < seeds.length; s++) {
            GridRipUp g = grid(3, 3, 3, seeds[s],
                    pins(1, 0, 1, 1, 2, 1), pins(1, 1, 0, 1, 1, 2), pins(0, 1, 1, 2, 1, 1));
            for (int c = 0; c < 27; c++) {
                int away = Math.abs(c / 9 - 1) + Math.abs(c % 3 - 1) + Math.abs(c / 3 % 3 - 1);
                if (away > 1) {
                    g.bar(c / 9, c % 3, c / 3 % 3);
                }
            }
            due("two stay open", g.run(1), 2);
            for (int n = 0; n < 3; n++) {
                due("net " + n + " by seed " + seeds[s], g.joined(n), n == last[s]);
                due("rips", g.ripped(n), n == last[s] ? 0 : 1);
            }
            due("history", g.history(1, 1, 1), 2);
            due("cost of the last", g.costOf(last[s]), 2 + 100 + 1 + 2);
        }
    }

    private static void runFirstPinOfSeveral() {
        GridRipUp g = grid(5, 1, 1, 0, pins(0, 2, 0, 0, 4, 0, 0, 0, 0));
        g.run(1);
        due("of two as near the first one", way(g, 0), "020 040 030 000 010");
        GridRipUp h = grid(5, 1, 1, 0, pins(0, 2, 0, 0, 0, 0, 0, 3, 0));
        h.run(1);
        due("the nearest one", way(h, 0), "020 030 000 010");
        GridRipUp t = grid(3, 3, 1, 0, pins(0, 0, 0, 0, 2, 0, 0, 1, 2));
        t.run(1);
        due("from the tree, not from the first pin", way(t, 0) + " " + t.costOf(0), "000 020 010 012 011 8");
    }

    private static void runFreeBeforeRipping() {
        // the way round is dearer than the way through, but it is free
        GridRipUp g = grid(3, 16, 1, 2, pins(0, 0, 0, 0, 2, 0));
        g.net();
        g.cost(0, 20, 0, 0);
        g.pin(1, 0, 1, 0);
        g.pin(1, 0, 1, 5);
        due("both led", g.run(1), 0);
        due("no rip", g.ripped(0) + " " + g.ripped(1), "0 0");
    }

    private static void piece() {
        GridRipUp g = grid(3, 3, 2, 0, pins(1, 2, 2, 0, 0, 0), pins(0, 2, 0));
        dueIndex("an open net's", () -> g.piece(0, 0, 0));
        g.run(1);
        due("lowest numbers on the way back", way(g, 0), "122 000 010 011 021 022");
        due("a single pin", way(g, 1), "020");
        dueIndex("k -1", () -> g.piece(0, -1, 0));
        dueIndex("k 6", () -> g.piece(0, 6, 0));
        dueIndex("k greatest", () -> g.piece(0, Integer.MAX_VALUE, 0));
        dueIndex("what -1", () -> g.piece(0, 0, -1));
        dueIndex("what 3", () -> g.piece(0, 0, 3));
        dueIndex("net 2", () -> g.piece(2, 0, 0));
        dueIndex("net -1", () -> g.piece(-1, 0, 0));
        g.net();
        dueIndex("a net without pins", () -> g.piece(2, 0, 0));
        g.pin(0, 1, 0, 0);
        dueIndex("open again", () -> g.piece(0, 0, 0));
    }

    private static void costOf() {
        GridRipUp g = grid(4, 4, 2, 0, pins(0, 0, 0, 0, 3, 0, 1, 3, 3));
        g.net();
        g.cost(0, 7, 5, 0);
        due("open", g.costOf(0), NONE);
        due("without pins", g.costOf(1), NONE);
        g.run(1);
        due("3 along i; then up, and 3 along j", g.costOf(0), 6 + 7 + 6);
        g.cost(0, 50, 50, 50);
        due("as it was when it was led", g.costOf(0), 19);
        g.pin(0, 1, 0, 3);
        due("open again", g.costOf(0), NONE);
        dueIndex("net 2", () -> g.costOf(2));
        dueIndex("net -1", () -> g.costOf(-1));
        costOfNear();
    }

    private static void costOfNear() {
        // of the cells that the way comes to, (1,0) alone lies beside net 1's pin; net 2's, above, counts for nothing
        GridRipUp g = grid(3, 2, 2, 0, pins(0, 0, 0, 0, 2, 0), pins(0, 1, 1), pins(1, 1, 0));
        for (int i = 0; i < 3; i++) {
            g.bar(1, i, 1);
        }
        g.cost(0, 0, 0, 9);
        g.cost(1, 0, 0, 50);
        g.run(1);
        due("one near cell", g.costOf(0), 2 + 9 + 2);
        GridRipUp two = grid(3, 3, 1, 0, pins(0, 0, 1, 0, 1, 1), pins(0, 1, 0), pins(0, 1, 2), pins(0, 2, 1));
        two.cost(0, 0, 0, 10);
        two.run(1);
        due("three near cells, the net's own is none", two.costOf(0), 2 + 30);
        GridRipUp upper = grid(2, 2, 2, 0, pins(1, 0, 0, 1, 1, 0), pins(1, 1, 1));
        upper.cost(0, 0, 0, 50);
        upper.cost(1, 0, 0, 9);
        upper.run(1);
        due("the layer's own nearness", upper.costOf(0), 2 + 9);
    }

    private static void ripped() {
        GridRipUp g = crossing(1);
        due("never", g.ripped(0), 0);
        g.run(1);
        due("once", g.ripped(0), 1);
        due("never", g.ripped(1), 0);
        g.run(1);
        due("still once", g.ripped(0), 1);
        due("once", g.ripped(1), 1);
        due("the ripped net keeps its pins", g.bar(0, 1, 0), false);
        due("and the led one its way", way(g, 0), "001 021 011");
        dueIndex("net 2", () -> g.ripped(2));
        dueIndex("net -1", () -> g.ripped(-1));
        g.pin(0, 0, 0, 0);
        due("a pin is no rip", g.ripped(0), 1);
        GridRipUp bypass = crossing(2);
        bypass.run(5);
        due("no rip where a free way is", bypass.ripped(0) + bypass.ripped(1), 0);
        rippedOnceByLongWay();
    }

    /** Net 1 goes along three cells of net 0's way: one rip, three cells with a history. */
    private static void rippedOnceByLongWay() {
        GridRipUp g = grid(5, 2, 1, 0, pins(0, 1, 1, 0, 3, 1), pins());
        g.bar(0, 2, 1);
        due("net 0 goes over row 0", g.run(1) + " " + way(g, 0), "0 011 031 030 020 010");
        g.pin(1, 0, 0, 0);
        g.pin(1, 0, 4, 0);
        due("net 1 rips it", g.run(1) + " " + way(g, 1), "1 000 040 030 020 010");
        due("once", g.ripped(0), 1);
        due("three cells' history", g.history(0, 1, 0) + g.history(0, 2, 0) + g.history(0, 3, 0), 3);
        due("none of its own pins", g.history(0, 0, 0) + g.history(0, 4, 0), 0);
        due("100 for each held cell", g.costOf(1), 3 * 102 + 2);
        due("back", g.run(1) + " " + g.costOf(0), "1 " + (3 * 103 + 2));
    }

    private static void history() {
        GridRipUp g = crossing(1);
        due("0 at first", g.history(0, 1, 1), 0);
        g.run(1);
        due("the cell that was held", g.history(0, 1, 1), 1);
        for (int c = 0; c < 9; c++) {
            due("no other cell", g.history(0, c % 3, c / 3), c == 4 ? 1 : 0);
        }
        g.run(3);
        due("once more in each round", g.history(0, 1, 1), 4);
        dueIndex("layer 1", () -> g.history(1, 0, 0));
        dueIndex("layer -1", () -> g.history(-1, 0, 0));
        dueIndex("i 3", () -> g.history(0, 3, 0));
        dueIndex("i -1", () -> g.history(0, -1, 0));
        dueIndex("j 3", () -> g.history(0, 0, 3));
        dueIndex("j -1", () -> g.history(0, 0, -1));
        due("it is paid for", g.costOf(g.joined(0) ? 0 : 1), 2 + 100 + 3 + 2);
        due("another pin changes none", g.pin(0, 0, 0, 0) + " " + g.history(0, 1, 1), "true 4");
    }

    private static void open() {
        GridRipUp g = grid(7, 1, 1, 0, pins(0, 0, 0, 0, 6, 0), pins(), pins(0, 3, 0), pins(0, 1, 0, 0, 5, 0));
        due("0", g.open(0), 0);
        due("1: none without pins", g.open(1), 2);
        due("2", g.open(2), 3);
        due("3", g.open(3), NONE);
        due("-1", g.open(-1), NONE);
        due("least", g.open(Integer.MIN_VALUE), NONE);
        due("greatest", g.open(Integer.MAX_VALUE), NONE);
        due("run", g.run(1), 2);
        due("0", g.open(0), 0);
        due("1", g.open(1), 3);
        due("2", g.open(2), NONE);
    }

    private static void blocking() {
        GridRipUp g = grid(7, 1, 2, 0, pins(0, 0, 0, 0, 6, 0), pins(0, 3, 0), pins(1, 2, 0), pins(1, 5, 0));
        for (int i = 0; i < 7; i++) {
            g.bar(1, i, 0);
        }
        due("never to be led", g.blocking(0, 0), NONE);
        g.run(1);
        due("beside, and above; none that is far, nor itself", blockers(g, 0), "1 2");
        due("-1", g.blocking(0, -1), NONE);
        due("least", g.blocking(0, Integer.MIN_VALUE), NONE);
        due("greatest", g.blocking(0, Integer.MAX_VALUE), NONE);
        due("a led one", g.blocking(1, 0), NONE);
        dueIndex("net 4", () -> g.blocking(4, 0));
        dueIndex("net -1", () -> g.blocking(-1, -1));
        due("a new pin", g.pin(0, 0, 5, 0), true);
        due("tells still of the last time", blockers(g, 0), "1 2");
        blockingAtTheTree();
        blockingOfPart();
        blockingOfFreeSearch();
        blockingNoMore();
    }

    /** The ripping search goes on through net 1's way to net 2's pin; the free one ends before net 1. */
    private static void blockingOfFreeSearch() {
        GridRipUp g = grid(7, 2, 1, 0, pins(), pins(0, 2, 1, 0, 4, 1), pins(0, 5, 0));
        for (int i : new int[] {0, 1, 3, 5, 6}) {
            g.bar(0, i, 1);
        }
        due("nets 1 and 2 are led", g.run(1), 0);
        g.pin(0, 0, 0, 0);
        g.pin(0, 0, 6, 0);
        due("net 0 is not", g.run(1) + " " + g.open(0), "1 0");
        due("by net 1 alone", blockers(g, 0), "1");
        due("nothing is ripped", g.ripped(1) + " " + g.joined(1) + " " + g.history(0, 3, 0), "0 true 0");
    }

    private static void blockingAtTheTree() {
        GridRipUp g = grid(3, 1, 1, 0, pins(0, 2, 0, 0, 0, 0), pins(0, 1, 0));
        g.run(1);
        due("a neighbour of the tree", blockers(g, 0), "1");
    }

    /** The net comes to its second pin, but not to the third: the search from both tells. */
    private static void blockingOfPart() {
        GridRipUp g = grid(7, 1, 1, 0, pins(0, 2, 0, 0, 3, 0, 0, 6, 0), pins(0, 1, 0), pins(0, 4, 0), pins(0, 5, 0));
        due("open", g.run(1), 1);
        due("on both sides", blockers(g, 0), "1 2");
        dueIndex("no piece of a part", () -> g.piece(0, 0, 0));
        due("no cost of a part", g.costOf(0), NONE);
    }

    private static void blockingNoMore() {
        GridRipUp g = grid(3, 2, 1, 0, pins(0, 0, 0, 0, 2, 0), pins(0, 1, 0, 0, 1, 1));
        due("net 1 is between", g.run(1), 1);
        due("blocked", blockers(g, 0), "1");
        GridRipUp h = crossing(1);
        h.run(1);
        due("ripped, but led when it was last to be", h.joined(0) + " " + blockers(h, 0), "false ");
    }

    private static void joined() {
        GridRipUp g = grid(3, 1, 1, 0, pins(0, 0, 0, 0, 1, 0), pins(0, 2, 0), pins());
        due("open", g.joined(0), false);
        g.run(1);
        due("led", g.joined(0), true);
        due("led with one pin", g.joined(1), true);
        due("without pins", g.joined(2), false);
        dueIndex("net 3", () -> g.joined(3));
        dueIndex("net -1", () -> g.joined(-1));
        GridRipUp h = crossing(1);
        h.run(1);
        due("ripped", h.joined(0) + " " + h.joined(1), "false true");
    }

    private static void corridor() {
        GridRipUp g = grid(9, 9, 2, 0, pins(0, 8, 8, 1, 0, 0), pins(0, 3, 3, 0, 4, 3), pins());
        due("pins of an open net", corridor(g, 0), "0 8");
        due("3 blocks in a row", corridor(g, 1), "0 1");
        due("without pins", corridor(g, 2), "");
        g.cost(1, 50, 50, 0);
        g.cost(0, 1, 0, 0);
        due("led", g.run(1), 0);
        due("-1", g.corridor(0, -1), NONE);
        due("greatest", g.corridor(0, Integer.MAX_VALUE), NONE);
        dueIndex("net 3", () -> g.corridor(3, 0));
        dueIndex("net -1", () -> g.corridor(-1, 0));
        GridRipUp l = grid(8, 8, 1, 0, pins(0, 0, 0, 0, 7, 0, 0, 7, 7));
        due("pins", corridor(l, 0), "0 1 3");
        GridRipUp line = grid(16, 1, 1, 0, pins(0, 0, 0, 0, 15, 0));
        due("pins alone", corridor(line, 0), "0 3");
        line.run(1);
        due("ways too", corridor(line, 0), "0 1 2 3");
        line.pin(0, 0, 1, 0);
        due("pins alone again", corridor(line, 0), "0 3");
        due("the last block", grid(16, 16, 4, 0, pins(3, 15, 15)).corridor(0, 0), 15);
        due("(x + 3) / 4 in a row", grid(13, 16, 1, 0, pins(0, 0, 4)).corridor(0, 0), 4);
        due("(x + 3) / 4 in a row", grid(12, 16, 1, 0, pins(0, 0, 4)).corridor(0, 0), 3);
    }

    private static void round() {
        GridRipUp g = crossing(1);
        due("none", g.round(), 0);
        g.run(1);
        due("one", g.round(), 1);
        g.run(20);
        due("21", g.round(), 21);
        GridRipUp led = grid(2, 1, 1, 0, pins(0, 0, 0, 0, 1, 0));
        led.run(7);
        led.run(7);
        due("one, as no net was open then", led.round(), 1);
        led.pin(0, 0, 0, 0);
        led.run(7);
        due("no new pin, no round", led.round(), 1);
    }

    private static void band() {
        // pins in an L: the way goes over (1,0); the corner inside is (0,1)
        GridRipUp g = grid(2, 2, 1, 0, pins(0, 0, 0, 0, 1, 0, 0, 1, 1), pins());
        due("open", g.band(0), false);
        due("without pins", g.band(1), false);
        g.run(1);
        due("a free corner", g.band(0), true);
        due("pin in the corner", g.pin(1, 0, 0, 1), true);
        due("held by another", g.band(0), false);
        due("one pin has no bend", g.run(1) + " " + g.band(1), "0 true");
        dueIndex("net 2", () -> g.band(2));
        dueIndex("net -1", () -> g.band(-1));
        GridRipUp own = grid(2, 2, 1, 0, pins(0, 0, 0, 0, 1, 0, 0, 1, 1, 0, 0, 1));
        own.run(1);
        due("its own cell in the corner", own.band(0), true);
        bandCorners();
        GridRipUp straight = grid(3, 3, 1, 0, pins(0, 0, 1, 0, 2, 1));
        straight.run(1);
        for (int i = 0; i < 3; i++) {
            straight.bar(0, i, 0);
            straight.bar(0, i, 2);
        }
        due("no bend", straight.band(0), true);
        GridRipUp stair = grid(2, 1, 2, 0, pins(0, 0, 0, 0, 1, 0, 1, 1, 0));
        stair.run(1);
        due("a via is no bend", stair.bar(1, 0, 0) + " " + stair.band(0), "true true");
    }

    /** Each of the four bends at a cross of cells counts. */
    private static void bandCorners() {
        for (int c = 0; c < 4; c++) {
            GridRipUp g = grid(3, 3, 1, 0, pins(0, 1, 1, 0, 0, 1, 0, 2, 1, 0, 1, 0, 0, 1, 2));
            g.run(1);
            due("free corners", g.band(0), true);
            due("bar", g.bar(0, c % 2 * 2, c / 2 * 2), true);
            due("a barred corner", g.band(0), false);
        }
    }

    /** The example of README.md, with the answers that it tells. */
    private static void exampleOfReadme() {
        GridRipUp grid = new GridRipUp(3, 3, 1, 0L);
        due("bar", grid.bar(0, 2, 2), true);
        due("cost", grid.cost(0, 5, 0, 1), true);
        int flat = grid.net();
        due("pin", grid.pin(flat, 0, 0, 1) + " " + grid.pin(flat, 0, 2, 1), "true true");
        int upright = grid.net();
        due("pin", grid.pin(upright, 0, 1, 0) + " " + grid.pin(upright, 0, 1, 2), "true true");
        due("nets", flat + " " + upright, "0 1");
        due("run(1)", grid.run(1), 1);
        due("open(0)", grid.open(0), 0);
        due("ripped(flat)", grid.ripped(flat), 1);
        due("joined(upright)", grid.joined(upright), true);
        due("costOf(upright)", grid.costOf(upright), 117);
        due("piece(upright, 2, 1)", grid.piece(upright, 2, 1), 1);
        due("history(0, 1, 1)", grid.history(0, 1, 1), 1);
    }

    public static void main(String[] args) {
        Runnable[] all = {PromiseTest::newObject, PromiseTest::bar, PromiseTest::net, PromiseTest::pin,
            PromiseTest::cost, PromiseTest::run, PromiseTest::piece, PromiseTest::costOf, PromiseTest::ripped,
            PromiseTest::history, PromiseTest::open, PromiseTest::blocking, PromiseTest::joined,
            PromiseTest::corridor, PromiseTest::round, PromiseTest::band};
        for (int promise = 1; promise <= all.length; promise++) {
            says("promise " + promise);
            all[promise - 1].run();
        }
        says("README.md");
        exampleOfReadme();
        endWithCode();
    }
}
