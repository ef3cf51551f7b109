import java.math.BigInteger;
import java.util.ArrayList;
import java.util.Collections;
import java.util.List;

/** 'What it is' and 'Terms' of the document: each sentence that names a boundary case, with a test of its own. */
public final class TermsBoundaryTest extends TestKit {
    /** The six sides of a cell as layer, i, j, in the order in which the cells there have rising numbers. */
    private static final int[][] SIDES = {{-1, 0, 0}, {0, 0, -1}, {0, -1, 0}, {0, 1, 0}, {0, 0, 1}, {1, 0, 0}};

    private static void usedFor512Calls() {
        says("An object is used for at most 512 calls after it has been made");
        GridRipUp g = crossing(1);
        // crossing makes 6 calls
        for (int call = 7; call <= 509; call++) {
            g.run(20);
        }
        int rounds = 503 * 20;
        due("call 510", g.round(), rounds);
        due("call 511", g.history(0, 1, 1), rounds);
        due("call 512", g.costOf(0), 2 + 100 + (rounds - 1) + 2);
        GridRipUp bars = new GridRipUp(16, 16, 4, 0);
        GridRipUp nets = new GridRipUp(1, 1, 1, 0);
        for (int call = 0; call < 512; call++) {
            due("a new bar", bars.bar(call / 256, call % 16, call / 16 % 16), true);
            due("a new net", nets.net(), call < 12 ? call : NONE);
        }
    }

    private static void refusedFor512Calls() {
        says("An object is used for at most 512 calls, those that throw among them");
        GridRipUp g = new GridRipUp(2, 1, 1, 0);
        for (int call = 1; call <= 508; call += 4) {
            dueArgument("run", () -> g.run(0));
            dueIndex("bar", () -> g.bar(1, 0, 0));
            dueIndex("pin", () -> g.pin(0, 0, 0, 0));
            due("open", g.open(0), NONE);
        }
        due("call 509", g.net(), 0);
        due("call 510", g.pin(0, 0, 1, 0), true);
        due("call 511", g.run(20), 0);
        due("call 512", g.piece(0, 0, 1), 1);
    }

    private static void sidesAreHeld() {
        says("x, y are held to 1 .. 16 (below: 1, above: the greatest)");
        for (int side = 1; side <= 16; side++) {
            dueSides(side, side);
        }
        for (int side : new int[] {0, -1, -16, Integer.MIN_VALUE}) {
            dueSides(side, 1);
        }
        for (int side : new int[] {17, 18, 256, Integer.MAX_VALUE}) {
            dueSides(side, 16);
        }
    }

    private static void dueSides(int given, int held) {
        GridRipUp wide = grid(given, 16, 1, 0, pins(0, 0, 4));
        due("last i of x " + given, wide.bar(0, held - 1, 1), true);
        dueIndex("i behind that of x " + given, () -> wide.bar(0, held, 1));
        due("blocks in a row of x " + given, wide.corridor(0, 0), (held + 3) / 4);
        GridRipUp tall = new GridRipUp(2, given, 1, 0);
        due("last j of y " + given, tall.bar(0, 1, held - 1), true);
        dueIndex("j behind that of y " + given, () -> tall.bar(0, 1, held));
    }

    private static void layersAreHeld() {
        says("layers are held to 1 .. 4 (below: 1, above: the greatest)");
        int[] given = {Integer.MIN_VALUE, -4, -1, 0, 1, 2, 3, 4, 5, 16, Integer.MAX_VALUE};
        int[] held = {1, 1, 1, 1, 1, 2, 3, 4, 4, 4, 4};
        for (int n = 0; n < given.length; n++) {
            int layers = held[n];
            GridRipUp g = new GridRipUp(2, 3, given[n], 0);
            due("last layer's cell of " + given[n], g.bar(layers - 1, 1, 2), true);
            dueIndex("cell behind that of " + given[n], () -> g.bar(layers, 1, 2));
            due("last layer's costs of " + given[n], g.cost(layers - 1, 1, 1, 1), true);
            dueIndex("costs behind that of " + given[n], () -> g.cost(layers, 1, 1, 1));
        }
    }

    private static void numbersOfCells() {
        says("Cell i, j of layer l has the number (l * y + j) * x + i; each time to the neighbour of the lowest number");
        for (int a = 0; a < 6; a++) {
            for (int b = a + 1; b < 6; b++) {
                if (a + b != 5) {
                    dueLowerSide(3, 3, a, b);
                    dueLowerSide(5, 3, a, b);
                    dueLowerSide(3, 6, a, b);
                }
            }
        }
        GridRipUp alongI = grid(3, 3, 1, 0, pins(0, 1, 2, 0, 1, 0));
        addBars(alongI, 0, 1, 1);
        due("i less 1 or i and 1", alongI.run(1) + " " + way(alongI, 0), "0 012 010 000 001 002");
        GridRipUp alongJ = grid(3, 3, 1, 0, pins(0, 2, 1, 0, 0, 1));
        addBars(alongJ, 0, 1, 1);
        due("j less 1 or j and 1", alongJ.run(1) + " " + way(alongJ, 0), "0 021 001 000 010 020");
        GridRipUp byVias = grid(3, 1, 3, 0, pins(1, 2, 0, 1, 0, 0));
        addBars(byVias, 1, 1, 0);
        due("below or above", byVias.run(1) + " " + way(byVias, 0), "0 120 100 000 010 020");
    }

    /** From the middle cell the way to the one beside both sides goes over the side of the lower number. */
    private static void dueLowerSide(int x, int y, int a, int b) {
        int l = SIDES[a][0];
        int i = SIDES[a][1];
        int j = SIDES[a][2];
        GridRipUp g = grid(x, y, 3, 0, pins(1 + l + SIDES[b][0], 1 + i + SIDES[b][1], 1 + j + SIDES[b][2], 1, 1, 1));
        due("run", g.run(1), 0);
        due("sides " + a + ", " + b, "" + g.piece(0, 2, 0) + g.piece(0, 2, 1) + g.piece(0, 2, 2),
                "" + (1 + l) + (1 + i) + (1 + j));
    }

    private static void neighbours() {
        says("NEIGHBOURS of a cell are those beside it on its layer, and the same i, j one layer above and below");
        for (int[] side : SIDES) {
            GridRipUp g = grid(3, 3, 3, 0, pins(1, 1, 1, 1 + side[0], 1 + side[1], 1 + side[2]));
            due("each is one step away", g.run(1) + " " + g.costOf(0), "0 2");
            GridRipUp line = grid(3, 3, 3, 0,
                    pins(1 - side[0], 1 - side[1], 1 - side[2], 1 + side[0], 1 + side[1], 1 + side[2]));
            due("and two steps over the middle", line.run(1) + " " + line.costOf(0), "0 4");
            due("the middle", "" + line.piece(0, 2, 0) + line.piece(0, 2, 1) + line.piece(0, 2, 2), "111");
        }
        dueNoWay("the end of a row and the next row's first", 2, 2, 1, pins(0, 1, 0, 0, 0, 1), 0, 0, 0, 0, 1, 1);
        dueNoWay("both ends of a row", 3, 1, 1, pins(0, 0, 0, 0, 2, 0), 0, 1, 0);
        dueNoWay("both ends of a column", 1, 3, 1, pins(0, 0, 0, 0, 0, 2), 0, 0, 1);
        dueNoWay("the end of a layer and the next one's first", 2, 1, 2, pins(0, 1, 0, 1, 0, 0), 0, 0, 0, 1, 1, 0);
        dueNoWay("the last j and the next layer's first", 1, 2, 2, pins(0, 0, 1, 1, 0, 0), 0, 0, 0, 1, 0, 1);
        dueNoWay("two layers apart", 1, 1, 3, pins(0, 0, 0, 2, 0, 0), 1, 0, 0);
        dueNoWay("the lowest and the highest layer", 1, 1, 4, pins(0, 0, 0, 3, 0, 0), 1, 0, 0, 2, 0, 0);
        dueNoWay("aslant over i and layers", 2, 1, 2, pins(0, 0, 0, 1, 1, 0), 0, 1, 0, 1, 0, 0);
        dueNoWay("aslant on a layer", 2, 2, 1, pins(0, 0, 0, 0, 1, 1), 0, 1, 0, 0, 0, 1);
    }

    private static void dueNoWay(String what, int x, int y, int layers, int[] pins, int... bars) {
        GridRipUp g = grid(x, y, layers, 0, pins);
        addBars(g, bars);
        due(what, g.run(2) + " " + g.joined(0), "1 false");
    }

    private static void barredIsNeverGoneThrough() {
        says("BARRED cells are never gone through");
        GridRipUp around = grid(3, 2, 1, 0, pins(0, 0, 0, 0, 2, 0));
        around.cost(0, 50, 0, 0);
        addBars(around, 0, 1, 0);
        due("however dear the way round", around.run(1) + " " + way(around, 0), "0 000 020 021 011 001");
        GridRipUp ripping = grid(3, 3, 1, 0, pins(0, 1, 0, 0, 1, 2), pins());
        due("net 0 is led", ripping.run(1), 0);
        addPins(ripping, 1, 0, 0, 0, 0, 2, 0);
        addBars(ripping, 0, 0, 1);
        due("by ripping neither", ripping.run(3) + " " + ripping.joined(1) + " " + ripping.ripped(0), "1 false 0");
    }

    private static void twelveNetsOfFivePins() {
        says("NETS 0 .. 11 have PINS, up to 5, on cells");
        GridRipUp g = new GridRipUp(6, 12, 1, 0);
        for (int n = 0; n < 12; n++) {
            due("net", g.net(), n);
            for (int p = 0; p < 5; p++) {
                due("pin " + p, g.pin(n, 0, p, n), true);
            }
            due("a sixth", g.pin(n, 0, 5, n), false);
        }
        due("a 13th", g.net(), NONE);
        due("all are led", g.run(1), 0);
        for (int n = 0; n < 12; n++) {
            due("its pins are its tree", g.costOf(n) + " " + g.piece(n, 4, 1) + " " + g.piece(n, 4, 2), "8 4 " + n);
            int net = n;
            dueIndex("and no other cell", () -> g.piece(net, 5, 0));
        }
    }

    private static void whatANetHolds() {
        says("a net HOLDS the cells of its pins, and, when it is LED, those of its ways");
        GridRipUp g = grid(4, 1, 1, 0, pins(0, 0, 0, 0, 3, 0), pins());
        due("an open one's pins", g.bar(0, 0, 0) + " " + g.pin(1, 0, 3, 0), "false false");
        due("run", g.run(1), 0);
        due("a led one's pins", g.bar(0, 0, 0) + " " + g.pin(1, 0, 3, 0), "false false");
        due("a led one's ways", g.bar(0, 1, 0) + " " + g.pin(1, 0, 2, 0), "false false");
        GridRipUp open = grid(4, 1, 1, 0, pins(0, 0, 0, 0, 3, 0), pins());
        due("nothing between an open one's pins", open.bar(0, 1, 0) + " " + open.pin(1, 0, 2, 0), "true true");
    }

    private static void openNetsHavePins() {
        says("A net with pins that is not LED is OPEN");
        GridRipUp g = grid(3, 1, 1, 0, pins(), pins(0, 0, 0), pins());
        due("with pins", openNets(g), "1");
        due("led", g.run(1) + " " + openNets(g), "0 ");
        due("a first pin", g.pin(2, 0, 2, 0) + " " + openNets(g), "true 2");
    }

    private static void costsAtFirst() {
        says("COSTS of a layer, all 0 at first (0 .. 50): ACROSS, VIA, NEAR");
        GridRipUp g = new GridRipUp(1, 1, 4, 0);
        for (int layer = 0; layer < 4; layer++) {
            due("0 at first", g.cost(layer, 0, 0, 0), false);
            due("along i", price(0, 0, 2, 1, layer, 0, 0, layer, 1, 0), 2);
            due("along j", price(0, 0, 1, 2, layer, 0, 0, layer, 0, 1), 2);
        }
        GridRipUp fresh = grid(3, 3, 4, 0, pins(0, 0, 0, 3, 2, 2), pins(0, 2, 2));
        due("without a call of cost", fresh.run(1) + " " + fresh.costOf(0), "0 14");
    }

    /** What a net of two pins costs where each layer has these costs. */
    private static long price(int across, int via, int x, int y, int... pins) {
        GridRipUp g = grid(x, y, 4, 0, pins);
        for (int layer = 0; layer < 4; layer++) {
            g.cost(layer, across, via, 0);
        }
        g.run(1);
        return g.costOf(0);
    }

    private static void acrossOfEachLayer() {
        says("on a layer, 2, and ACROSS more along j on layers 0 and 2, along i on 1 and 3");
        for (int layer = 0; layer < 4; layer++) {
            due("along i on " + layer, price(50, 50, 2, 1, layer, 0, 0, layer, 1, 0), layer % 2 == 0 ? 2 : 52);
            due("back along i on " + layer, price(50, 50, 2, 1, layer, 1, 0, layer, 0, 0), layer % 2 == 0 ? 2 : 52);
            due("along j on " + layer, price(50, 50, 1, 2, layer, 0, 0, layer, 0, 1), layer % 2 == 0 ? 52 : 2);
            due("back along j on " + layer, price(50, 50, 1, 2, layer, 0, 1, layer, 0, 0), layer % 2 == 0 ? 52 : 2);
        }
    }

    private static void viaOfTheLowerLayer() {
        says("to another layer VIA of the lower number of both, and 2");
        for (int layer = 0; layer < 3; layer++) {
            for (int up = 0; up < 2; up++) {
                GridRipUp g = grid(1, 1, 4, 0, pins(layer + up, 0, 0, layer + 1 - up, 0, 0));
                for (int l = 0; l < 4; l++) {
                    g.cost(l, 50, l == layer ? 50 : 7, 50);
                }
                due("between " + layer + " and the next", g.run(1) + " " + g.costOf(0), "0 52");
            }
        }
    }

    private static void nearOfFourCells() {
        says("NEAR of its layer for each cell beside it on that which another net HOLDS");
        GridRipUp four = grid(3, 3, 2, 0, pins(1, 1, 1, 0, 1, 1),
                pins(0, 1, 0), pins(0, 0, 1), pins(0, 2, 1), pins(0, 1, 2));
        duePriceNear("all four", four, 2 + 4 * 50);
        duePriceNear("nothing outside the grid", grid(2, 1, 1, 0, pins(0, 0, 0, 0, 1, 0)), 2);
        duePriceNear("not the next row's first", grid(3, 2, 1, 0, pins(0, 1, 0, 0, 2, 0), pins(0, 0, 1)), 2);
        duePriceNear("not the next layer's first", grid(2, 1, 2, 0, pins(0, 0, 0, 0, 1, 0), pins(1, 0, 0)), 2);
        duePriceNear("not the row's other end", grid(3, 1, 1, 0, pins(0, 1, 0, 0, 2, 0), pins(0, 0, 0)), 2);
        duePriceNear("not below and above",
                grid(2, 1, 3, 0, pins(1, 0, 0, 1, 1, 0), pins(0, 1, 0), pins(2, 1, 0)), 2);
        duePriceNear("not aslant", grid(2, 3, 1, 0, pins(0, 0, 1, 0, 0, 2), pins(0, 1, 1)), 2);
        duePriceNear("not of the cell that it goes from", grid(2, 2, 1, 0, pins(0, 0, 0, 0, 0, 1), pins(0, 1, 0)), 2);
        duePriceNear("not its own", grid(3, 1, 1, 0, pins(0, 0, 0, 0, 1, 0, 0, 2, 0)), 4);
        GridRipUp barred = grid(2, 2, 1, 0, pins(0, 0, 0, 0, 1, 0));
        addBars(barred, 0, 1, 1);
        duePriceNear("not the barred", barred, 2);
        duePriceNear("the grid's first cell", grid(3, 1, 1, 0, pins(0, 2, 0, 0, 1, 0), pins(0, 0, 0)), 2 + 50);
        duePriceNear("the grid's last cell", grid(3, 1, 1, 0, pins(0, 0, 0, 0, 1, 0), pins(0, 2, 0)), 2 + 50);
        GridRipUp way = grid(3, 2, 1, 0, pins(), pins(0, 0, 1, 0, 2, 1));
        due("net 1 is led", way.run(1), 0);
        addPins(way, 0, 0, 0, 0, 0, 1, 0);
        duePriceNear("a led net's way", way, 2 + 50);
    }

    private static void nearOfItsLayer() {
        says("of the cell that it comes to, NEAR of its layer, for each cell that another net HOLDS");
        GridRipUp g = grid(3, 3, 2, 0, pins(1, 1, 1, 0, 1, 1), pins(0, 0, 1, 0, 1, 0), pins(1, 1, 0));
        addBars(g, 1, 0, 0, 1, 0, 1, 0, 2, 0);
        g.cost(0, 0, 0, 11);
        g.cost(1, 0, 0, 50);
        due("two cells of one net, by a via", g.run(1) + " " + g.costOf(0), "0 24");
    }

    private static void duePriceNear(String what, GridRipUp g, long want) {
        for (int layer = 0; layer < 4; layer++) {
            try {
                g.cost(layer, 0, 0, 50);
            } catch (IndexOutOfBoundsException fewerLayers) {
                break;
            }
        }
        g.run(1);
        due(what, g.costOf(0), want);
    }

    private static void historyIsPaidFor() {
        says("A STEP costs, of the cell that it comes to, its HISTORY");
        GridRipUp g = crossing(1);
        due("net 0 is ripped", g.run(1) + " " + g.history(0, 1, 1), "1 1");
        addPins(g, 1, 0, 1, 1);
        due("in a free search, once", g.run(1) + " " + g.costOf(1), "1 5");
        GridRipUp h = crossing(1);
        h.run(1);
        due("in a ripping search", h.run(1) + " " + h.costOf(0), "1 105");
        due("the cell that it comes to", priceAtHistory(pins(0, 2, 3, 0, 2, 2)), 3);
        due("not the cell that it goes from", priceAtHistory(pins(0, 2, 2, 0, 2, 3)), 2);
    }

    /** What a third net costs whose one pin lies where two nets crossed, at a history of 1. */
    private static long priceAtHistory(int[] pins) {
        GridRipUp g = grid(5, 5, 1, 0, pins(0, 0, 2, 0, 4, 2), pins(0, 2, 0, 0, 2, 4), pins());
        due("net 0 is ripped", g.run(1) + " " + g.history(0, 2, 2) + " " + openNets(g), "1 1 0");
        addPins(g, 1, 0, 2, 1);
        addPins(g, 2, pins);
        g.run(1);
        return g.costOf(2);
    }

    private static void treeOfOnePin() {
        says("its first pin is its tree. Then, again and again, until all its pins are in it");
        GridRipUp g = grid(1, 1, 1, 0, pins(0, 0, 0));
        due("a net of one pin in a grid of one cell", g.run(1) + " " + g.costOf(0) + " " + way(g, 0), "0 0 000");
        GridRipUp walled = grid(3, 3, 1, 0, pins(0, 1, 1));
        addBars(walled, 0, 1, 0, 0, 0, 1, 0, 2, 1, 0, 1, 2);
        due("a net of one pin with no way out", walled.run(1) + " " + way(walled, 0), "0 011");
        GridRipUp last = grid(3, 1, 1, 0, pins(0, 2, 0, 0, 0, 0));
        due("the first pin put, not the lowest", last.run(1) + " " + way(last, 0), "0 020 000 010");
    }

    private static void freeBeforeRipping() {
        says("If no pin that is not in the tree has one: again, over cells that other nets HOLD, too");
        GridRipUp dear = crossing(2);
        dear.cost(0, 0, 50, 0);
        due("a free way for 108 before a ripping one for 104", dear.run(1) + " " + (dear.costOf(0) + dear.costOf(1)),
                "0 112");
        due("nothing is ripped", dear.ripped(0) + dear.ripped(1), 0);
        GridRipUp g = grid(3, 5, 1, 0, pins(0, 1, 0, 0, 1, 4), pins());
        g.cost(0, 50, 0, 0);
        due("net 0 is led", g.run(1), 0);
        addPins(g, 1, 0, 0, 1, 0, 2, 1, 0, 0, 4);
        due("net 1 is led", g.run(1) + " " + g.joined(1), "1 true");
        due("first the pin that has a free way", way(g, 1), "001 004 003 002 021 011");
        due("for 156; then the nearer one by ripping, for 104", g.costOf(1), 260);
    }

    private static void freeAgainBehindRipping() {
        says("Then, again and again: each cell's DISTANCE over cells that are not HELD by other nets");
        GridRipUp g = grid(3, 5, 1, 0, pins(0, 1, 0, 0, 1, 4), pins());
        due("net 0 is led", g.run(1), 0);
        addPins(g, 1, 0, 0, 1, 0, 2, 1, 0, 2, 3);
        addBars(g, 0, 2, 2);
        due("the second way goes freely where net 0 was", g.run(1) + " " + way(g, 1), "1 001 021 011 023 013 012");
        due("104 and 6", g.costOf(1), 110);
        due("history of the first way alone", g.history(0, 1, 1) + " " + g.history(0, 1, 2) + " " + g.history(0, 1, 3),
                "1 0 0");
        GridRipUp dear = grid(5, 5, 1, 0, pins(0, 1, 0, 0, 1, 4), pins(), pins(0, 3, 0, 0, 3, 2));
        dear.cost(0, 50, 0, 0);
        due("nets 0 and 2 are led", dear.run(1), 0);
        addPins(dear, 1, 0, 0, 1, 0, 2, 1, 0, 4, 1);
        due("the second way goes round net 2", dear.run(1) + " " + way(dear, 1), "1 001 021 011 041 042 043 033 023 022");
        due("for 212, though a ripping one is 104", dear.costOf(1) + " " + dear.ripped(2), "316 0");
    }

    private static void pinsAreNeverGoneThrough() {
        says("over cells that other nets HOLD, too, but their pins");
        // among these seeds either net is the first one
        for (int seed = 0; seed < 4; seed++) {
            GridRipUp g = grid(3, 2, 1, seed, pins(0, 0, 0, 0, 2, 0), pins(0, 1, 0, 0, 1, 1));
            due("an open net's pins, and a led one's", g.run(1) + " " + g.run(1) + " " + openNets(g), "1 1 0");
            due("no rip, no history", g.ripped(1) + " " + g.history(0, 1, 0) + " " + g.history(0, 1, 1), "0 0 0");
        }
    }

    private static void aHundredForEach() {
        says("each 100 more");
        GridRipUp two = grid(4, 3, 1, 0, pins(0, 1, 0, 0, 1, 2), pins(0, 2, 0, 0, 2, 2), pins());
        due("nets 0 and 1 are led", two.run(1), 0);
        addPins(two, 2, 0, 0, 1, 0, 3, 1);
        due("through both", two.run(1) + " " + two.costOf(2), "2 206");
        GridRipUp one = grid(4, 5, 1, 0, pins(0, 1, 0, 0, 1, 4), pins(0, 2, 0, 0, 2, 2), pins());
        due("nets 0 and 1 are led", one.run(1), 0);
        addPins(one, 2, 0, 0, 1, 0, 3, 1);
        due("a longer way through one of them", one.run(1) + " " + one.costOf(2), "1 114");
        due("which it is", openNets(one) + " " + one.history(0, 1, 3), "0 1");
    }

    private static void stepsOfARippingSearch() {
        says("again, over cells that other nets HOLD, too: a STEP costs what it does in a FREE search");
        GridRipUp across = grid(3, 3, 1, 0, pins(0, 0, 1, 0, 2, 1), pins());
        due("net 0 is led", across.run(1), 0);
        addPins(across, 1, 0, 1, 0, 0, 1, 2);
        across.cost(0, 9, 0, 0);
        due("ACROSS", across.run(1) + " " + across.costOf(1), "1 " + (11 + 100 + 11));
        GridRipUp via = grid(3, 1, 3, 0, pins(1, 0, 0, 1, 2, 0), pins());
        due("net 0 is led", via.run(1), 0);
        addPins(via, 1, 0, 1, 0, 2, 1, 0);
        via.cost(0, 0, 5, 0);
        via.cost(1, 0, 6, 0);
        via.cost(2, 0, 50, 0);
        due("VIA", via.run(1) + " " + via.costOf(1), "1 " + (7 + 100 + 8));
        GridRipUp near = grid(3, 3, 1, 0, pins(0, 1, 0, 0, 1, 2), pins());
        due("net 0 is led", near.run(1), 0);
        addPins(near, 1, 0, 0, 1, 0, 2, 1);
        near.cost(0, 0, 0, 7);
        due("NEAR, of the net that is ripped, too", near.run(1) + " " + near.costOf(1), "1 " + (2 + 14 + 100 + 2 + 7));
    }

    /** As in freeAgainBehindRipping; net 0 keeps its pins at both ends of column 1. */
    private static void nearNoMoreBehindRipping() {
        says("each cell beside it on that which another net HOLDS, when that was ripped in the same leading");
        GridRipUp g = grid(3, 5, 1, 0, pins(0, 1, 0, 0, 1, 4), pins());
        due("net 0 is led", g.run(1), 0);
        addPins(g, 1, 0, 0, 1, 0, 2, 1, 0, 2, 3);
        addBars(g, 0, 2, 2);
        g.cost(0, 0, 0, 5);
        due("the ways", g.run(1) + " " + way(g, 1), "1 001 021 011 023 013 012");
        int byRipping = (2 + 10 + 100) + (2 + 5);
        due("behind it net 0's last pin alone is near", g.costOf(1), byRipping + 2 + (2 + 5) + 2);
    }

    /** Net 1 goes through net 0's way to its second pin; its third one lies behind bars. */
    private static GridRipUp halfJoined() {
        GridRipUp g = grid(5, 3, 1, 0, pins(0, 1, 0, 0, 1, 2), pins());
        addBars(g, 0, 3, 0, 0, 3, 1, 0, 3, 2);
        due("net 0 is led", g.run(1), 0);
        addPins(g, 1, 0, 0, 1, 0, 2, 1, 0, 4, 1);
        due("net 1 is not, and net 0 no more", g.run(1) + " " + openNets(g), "2 0 1");
        return g;
    }

    private static void staysOpenWithPinsAlone() {
        says("If none has one then the net stays OPEN, and HOLDS its pins alone");
        GridRipUp g = halfJoined();
        due("what it ripped stays ripped", g.ripped(0) + " " + g.history(0, 1, 1), "1 1");
        dueIndex("no piece", () -> g.piece(1, 0, 0));
        due("no cost", g.costOf(1), NONE);
        due("its pins", g.bar(0, 0, 1) + " " + g.bar(0, 2, 1) + " " + g.bar(0, 4, 1), "false false false");
        due("the joined part of its way is free", g.bar(0, 1, 1), true);
    }

    private static void blockedBy() {
        says("BLOCKED by all nets that HOLD a neighbour of a cell with a DISTANCE in the FREE search (the tree's, too)");
        GridRipUp six = grid(3, 3, 3, 0, pins(1, 1, 1, 0, 0, 0), pins(0, 1, 1), pins(1, 1, 0), pins(1, 0, 1),
                pins(1, 2, 1), pins(1, 1, 2), pins(2, 1, 1), pins(1, 0, 0), pins(2, 2, 2));
        due("the tree's six neighbours, none aslant", six.run(1) + " " + blockers(six, 0), "1 1 2 3 4 5 6");
        due("behind a way by ripping, what is there then", blockers(halfJoined(), 1), "0");
        GridRipUp way = grid(5, 3, 1, 0, pins(), pins(0, 1, 0, 0, 1, 2), pins(0, 3, 0, 0, 3, 1, 0, 3, 2));
        due("nets 1 and 2 are led", way.run(1), 0);
        addPins(way, 0, 0, 0, 1, 0, 4, 1);
        due("the ripping search's neighbours are not meant", way.run(1) + " " + blockers(way, 0), "1 1");
        GridRipUp eleven = rowOfEleven();
        due("all the others", eleven.run(1) + " " + blockers(eleven, 0), "1 1 2 3 4 5 6 7 8 9 10 11");
    }

    /** Net 0 goes along row 0 as far as a bar; below it lie the pins of nets 1 to 11. */
    private static GridRipUp rowOfEleven() {
        GridRipUp g = grid(13, 2, 1, 0, pins(0, 0, 0, 0, 12, 0));
        addBars(g, 0, 11, 0, 0, 11, 1);
        for (int n = 1; n < 12; n++) {
            addPins(g, g.net(), 0, n - 1, 1);
        }
        return g;
    }

    private static void firstOfSeveralPins() {
        says("the pin of the least DISTANCE (of several the first one) is joined");
        dueRow(pins(0, 0, 0, 0, 4, 0, 0, 6, 0, 0, 8, 0), "000 040 030 020 010 060 050 080 070");
        dueRow(pins(0, 8, 0, 0, 0, 0, 0, 4, 0, 0, 6, 0), "080 060 070 040 050 000 010 020 030");
        dueRow(pins(0, 6, 0, 0, 8, 0, 0, 4, 0), "060 080 070 040 050");
        dueRow(pins(0, 6, 0, 0, 4, 0, 0, 8, 0), "060 040 050 080 070");
        dueRow(pins(0, 4, 0, 0, 5, 0, 0, 7, 0, 0, 2, 0), "040 050 070 060 020 030");
        dueRow(pins(0, 4, 0, 0, 5, 0, 0, 2, 0, 0, 7, 0), "040 050 020 030 070 060");
    }

    private static void dueRow(int[] pins, String want) {
        GridRipUp g = grid(9, 1, 1, 0, pins);
        due("a net in a row", g.run(1) + " " + way(g, 0), "0 " + want);
    }

    private static void wayIntoTheTree() {
        says("these cells come into the tree in this order; the pin's DISTANCE is added to the net's COST");
        GridRipUp g = grid(5, 3, 1, 0, pins(0, 0, 1, 0, 4, 1, 0, 2, 2));
        due("the nearest pin's way first", g.run(1) + " " + way(g, 0), "0 001 022 021 011 041 031");
        due("6 and 4", g.costOf(0), 10);
    }

    private static void allInTheWayAreRipped() {
        says("all nets that HELD one of these cells are ripped: they are OPEN, and HOLD their pins alone");
        GridRipUp g = grid(5, 3, 1, 0, pins(0, 1, 0, 0, 1, 2), pins(0, 2, 0, 0, 2, 2), pins(),
                pins(0, 4, 0, 0, 4, 2));
        due("nets 0, 1 and 3 are led", g.run(1), 0);
        addPins(g, 2, 0, 0, 1, 0, 3, 1);
        due("both in the way are open", g.run(1) + " " + openNets(g), "2 0 1");
        due("rips", "" + g.ripped(0) + g.ripped(1) + g.ripped(2) + g.ripped(3), "1100");
        GridRipUp first = grid(3, 3, 1, 0, pins(0, 1, 0, 0, 0, 1), pins());
        due("net 0 goes over the grid's first cell", first.run(1) + " " + way(first, 0), "0 010 001 000");
        addBars(first, 0, 1, 1);
        addPins(first, 0, 0, 0, 2);
        due("and holds it no more", first.bar(0, 0, 0), true);
        says("the HISTORY of each such cell grows by 1");
        due("the cells that were held", g.history(0, 1, 1) + " " + g.history(0, 2, 1), "1 1");
        due("not the pins of the way, nor cells beside it", g.history(0, 0, 1) + g.history(0, 3, 1)
                + g.history(0, 1, 0) + g.history(0, 1, 2) + g.history(0, 4, 1), 0);
    }

    private static void rippedInTheRoundWaits() {
        says("the nets that are OPEN at its beginning");
        GridRipUp g = crossing(1);
        due("a net that is ripped in a round is not led again in it", g.run(1) + " " + g.ripped(0) + g.ripped(1), "1 10");
        due("but in the next one", g.run(1) + " " + g.ripped(0) + g.ripped(1), "1 11");
    }

    private static void ordersOfRounds() {
        says("for k from their number less 1 down to 1, the k-th one and the one DRAWN mod (k + 1) change places");
        long[] seeds = {0, 1, 2, -1, -2, 4711, Long.MAX_VALUE, Long.MIN_VALUE, 1L << 33, -(1L << 33), 0x9E3779B97F4A7C15L};
        int[][] openedAgain = {{0xFFF, 0x008, 0xFFF, 0x0A5}, {0x003, 0xC00, 0x007, 0xFFF}, {0x001, 0x800, 0x7FE, 0x555}};
        for (long seed : seeds) {
            for (int[] sets : openedAgain) {
                new Rows(seed).play(sets);
            }
        }
    }

    /** Net r lies along row r: who is led later pays 1 for each way that is beside its own by then. */
    private static final class Rows {
        private static final int NETS = 12;
        final GridRipUp g;
        final String name;
        final int[] lastPin = new int[NETS];
        final boolean[] led = new boolean[NETS];
        final long[] costs = new long[NETS];
        BigInteger s;

        Rows(long seed) {
            name = "seed " + seed;
            g = new GridRipUp(9, NETS, 1, seed);
            s = BigInteger.valueOf(seed);
            g.cost(0, 0, 0, 1);
            for (int r = 0; r < NETS; r++) {
                addPins(g, g.net(), 0, 0, r);
            }
        }

        void play(int[] openedAgain) {
            dueRound();
            for (int set : openedAgain) {
                for (int r = 0; r < NETS; r++) {
                    if ((set >> r & 1) != 0) {
                        lastPin[r] += 2;
                        led[r] = false;
                        addPins(g, r, 0, lastPin[r], r);
                    }
                }
                dueRound();
            }
        }

        private void dueRound() {
            for (int r : order()) {
                costs[r] = 0;
                for (int i = 1; i <= lastPin[r]; i++) {
                    costs[r] += 2 + held(r - 1, i) + held(r + 1, i);
                }
                led[r] = true;
            }
            due(name, g.run(1), 0);
            for (int r = 0; r < NETS; r++) {
                due(name + ", row " + r, g.costOf(r), costs[r]);
            }
        }

        private int held(int r, int i) {
            return r >= 0 && r < NETS && i <= lastPin[r] && (led[r] || i % 2 == 0) ? 1 : 0;
        }

        private List<Integer> order() {
            List<Integer> all = new ArrayList<>();
            for (int r = 0; r < NETS; r++) {
                if (!led[r]) {
                    all.add(r);
                }
            }
            for (int k = all.size() - 1; k >= 1; k--) {
                Collections.swap(all, k, draw().mod(BigInteger.valueOf(k + 1)).intValue());
            }
            return all;
        }

        /** Without a long, so that neither its wrap nor its sign is the test's own. */
        private BigInteger draw() {
            s = s.multiply(new BigInteger("6364136223846793005")).add(new BigInteger("1442695040888963407"))
                    .mod(BigInteger.ONE.shiftLeft(64));
            return s.shiftRight(33);
        }
    }

    private static void noneIsMinusOne() {
        says("NONE = -1: There is none");
        due("NONE", GridRipUp.NONE, -1);
        due("open", new GridRipUp(1, 1, 1, 0).open(0), -1);
    }

    public static void main(String[] args) {
        usedFor512Calls();
        refusedFor512Calls();
        sidesAreHeld();
        layersAreHeld();
        numbersOfCells();
        neighbours();
        barredIsNeverGoneThrough();
        twelveNetsOfFivePins();
        whatANetHolds();
        openNetsHavePins();
        costsAtFirst();
        acrossOfEachLayer();
        viaOfTheLowerLayer();
        nearOfFourCells();
        nearOfItsLayer();
        historyIsPaidFor();
        treeOfOnePin();
        freeBeforeRipping();
        freeAgainBehindRipping();
        pinsAreNeverGoneThrough();
        aHundredForEach();
        stepsOfARippingSearch();
        nearNoMoreBehindRipping();
        staysOpenWithPinsAlone();
        blockedBy();
        firstOfSeveralPins();
        wayIntoTheTree();
        allInTheWayAreRipped();
        rippedInTheRoundWaits();
        ordersOfRounds();
        noneIsMinusOne();
        endWithCode();
    }
}
