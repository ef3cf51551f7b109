/** Promises 1 to 16: each sentence that names a boundary case, with a test of its own. */
public final class PromiseBoundaryTest extends TestKit {
    private static final int LEAST = Integer.MIN_VALUE;
    private static final int GREATEST = Integer.MAX_VALUE;

    private interface CellCall {
        Object answer(int layer, int i, int j);
    }

    private interface NetCall {
        Object answer(int net);
    }

    /** In a grid of 4 by 3 cells on 2 layers: each place that is just or far outside. */
    private static void dueNoSuchCell(CellCall call) {
        int[][] outside = {{-1, 0, 0}, {2, 0, 0}, {0, -1, 0}, {0, 4, 0}, {0, 0, -1}, {0, 0, 3}, {1, 4, 2}, {1, 3, 3},
            {2, 3, 2}, {LEAST, 0, 0}, {GREATEST, 0, 0}, {0, LEAST, 0}, {0, GREATEST, 0}, {0, 0, LEAST},
            {0, 0, GREATEST}, {-1, 4, 3}, {1, -1, 1}, {-1, 0, 3}};
        for (int[] place : outside) {
            dueIndex("cell " + place[0] + ", " + place[1] + ", " + place[2],
                    () -> call.answer(place[0], place[1], place[2]));
        }
    }

    private static void dueNoSuchNet(int nets, NetCall call) {
        for (int net : new int[] {-1, -2, nets, nets + 1, LEAST, GREATEST}) {
            dueIndex("net " + net + " of " + nets, () -> call.answer(net));
        }
    }

    /** A net's own answers are refused when there is none, when there is one, and when there are 12. */
    private static void dueNoSuchNet(java.util.function.BiFunction<GridRipUp, Integer, Object> call) {
        for (int nets : new int[] {0, 1, 11, 12}) {
            GridRipUp g = new GridRipUp(2, 2, 2, 0);
            for (int n = 0; n < nets; n++) {
                g.net();
            }
            dueNoSuchNet(nets, net -> call.apply(g, net));
        }
    }

    private static void newObject() {
        says("Promise 1: No nets");
        GridRipUp g = new GridRipUp(16, 16, 4, 7);
        dueIndex("net 0", () -> g.joined(0));
        due("open, round", g.open(0) + " " + g.round(), NONE + " 0");
        due("the first net", g.net(), 0);
        says("Promise 1: nothing BARRED");
        for (int cell = 0; cell < 1024; cell++) {
            int i = cell % 16;
            int j = cell / 16 % 16;
            due("history", g.history(cell / 256, i, j), 0);
            due("bar", g.bar(cell / 256, i, j), true);
        }
        says("Promise 1: an object is not another's");
        GridRipUp other = new GridRipUp(16, 16, 4, 7);
        due("bar, net", other.bar(0, 0, 0) + " " + other.net(), "true 0");
    }

    private static void barIsForGood() {
        says("Promise 2: A cell is BARRED from now on: true; false, when it is already");
        GridRipUp g = grid(4, 3, 2, 0, pins(0, 0, 0, 0, 2, 0));
        due("first, again", g.bar(0, 1, 0) + " " + g.bar(0, 1, 0), "true false");
        due("the last cell, again", g.bar(1, 3, 2) + " " + g.bar(1, 3, 2), "true false");
        due("no pin comes there", g.pin(0, 0, 1, 0), false);
        due("no way goes there", g.run(1) + " " + way(g, 0), "0 000 020 021 011 001");
        due("still", g.bar(0, 1, 0) + " " + g.pin(0, 0, 1, 0), "false false");
        due("no cell beside it is", g.bar(1, 1, 0) + " " + g.bar(0, 3, 2) + " " + g.bar(1, 2, 2), "true true true");
    }

    private static void barOfHeldCell() {
        says("Promise 2: false, when a net HOLDS it");
        GridRipUp g = crossing(1);
        due("an open net's pin", g.bar(0, 0, 1), false);
        g.run(1);
        due("a led net's pin, and its way", g.bar(0, 1, 0) + " " + g.bar(0, 1, 1), "false false");
        due("a ripped net's pin", g.bar(0, 0, 1), false);
        due("it was not barred by that", g.run(1) + " " + way(g, 0), "1 001 021 011");
        GridRipUp left = grid(3, 1, 1, 0, pins(0, 0, 0, 0, 1, 0), pins());
        due("a cell that no net holds, full else", left.bar(0, 2, 0), true);
        says("Promise 2: IndexOutOfBoundsException, when there is no such cell");
        GridRipUp small = new GridRipUp(4, 3, 2, 0);
        dueNoSuchCell((layer, i, j) -> small.bar(layer, i, j));
        for (int cell = 0; cell < 24; cell++) {
            due("no cell was barred by that", small.bar(cell / 12, cell % 4, cell / 4 % 3), true);
        }
    }

    private static void netsAreTwelve() {
        says("Promise 3: A new net without pins: its number; NONE when there are 12");
        GridRipUp g = grid(2, 1, 1, 0, pins(0, 0, 0));
        for (int n = 1; n < 12; n++) {
            due("net " + n, g.net(), n);
            due("without pins", openNets(g) + " " + g.joined(n) + " " + corridor(g, n), "0 false ");
        }
        for (int more = 0; more < 3; more++) {
            due("a 13th", g.net(), NONE);
        }
        due("net 11 is there", g.pin(11, 0, 1, 0), true);
        dueIndex("net 12 is not", () -> g.joined(12));
        due("net 0 has its pin still", openNets(g), "0 11");
        GridRipUp h = new GridRipUp(2, 1, 1, 0);
        due("the number of one that is not there yet", h.net(), 0);
        dueIndex("pin", () -> h.pin(1, 0, 0, 0));
        due("is the next one's", h.net(), 1);
    }

    private static void pinOpensALedNet() {
        says("Promise 4: A net's new pin; if it is LED, it is OPEN from now on, and HOLDS its pins alone: true");
        GridRipUp g = grid(5, 1, 1, 0, pins(0, 0, 0, 0, 2, 0), pins());
        due("a first pin opens", openNets(g), "0");
        g.run(1);
        due("a free cell", g.pin(0, 0, 4, 0), true);
        due("open", openNets(g) + " " + g.joined(0) + " " + g.costOf(0), "0 false -1");
        due("its pins", g.bar(0, 0, 0) + " " + g.bar(0, 2, 0) + " " + g.bar(0, 4, 0), "false false false");
        due("its way is another's to take", g.pin(1, 0, 1, 0), true);
        GridRipUp own = grid(3, 1, 1, 0, pins(0, 0, 0, 0, 2, 0));
        own.run(1);
        due("a cell of its own way", own.pin(0, 0, 1, 0) + " " + own.joined(0), "true false");
        due("is a pin then", own.run(1) + " " + way(own, 0), "0 000 010 020");
        GridRipUp open = grid(3, 1, 1, 0, pins(0, 0, 0));
        due("an open net's", open.pin(0, 0, 2, 0) + " " + openNets(open), "true 0");
    }

    /** Net 0 is led and has 3 pins; net 1 is led; 5, 1 is barred. */
    private static GridRipUp ledPair() {
        GridRipUp g = grid(6, 2, 1, 0, pins(0, 0, 0, 0, 1, 0, 0, 3, 0), pins(0, 0, 1, 0, 2, 1));
        addBars(g, 0, 5, 1);
        due("both are led", g.run(1), 0);
        return g;
    }

    private static void duePairUnchanged(String what, GridRipUp g) {
        due(what + ": changes nothing", openNets(g) + g.joined(0) + g.costOf(0) + " " + way(g, 0) + " " + way(g, 1),
                "true6 000 010 030 020 001 021 011");
    }

    private static void pinIsRefused() {
        GridRipUp g = ledPair();
        says("Promise 4: false, changing nothing, when the cell is BARRED");
        due("barred", g.pin(0, 0, 5, 1), false);
        duePairUnchanged("barred", g);
        says("Promise 4: false, changing nothing, when a pin of it is there");
        due("its first and its last pin", g.pin(0, 0, 0, 0) + " " + g.pin(0, 0, 3, 0), "false false");
        duePairUnchanged("its own pin", g);
        says("Promise 4: false, changing nothing, when another net HOLDS it");
        due("another's pin, and its way", g.pin(0, 0, 0, 1) + " " + g.pin(0, 0, 1, 1), "false false");
        duePairUnchanged("another's cell", g);
        GridRipUp open = grid(3, 1, 1, 0, pins(0, 0, 0), pins(0, 1, 0));
        due("an open net's pin, by an open net", open.pin(0, 0, 1, 0) + " " + open.pin(1, 0, 0, 0), "false false");
        due("it has one pin still", open.run(1) + " " + way(open, 0) + " " + way(open, 1), "0 000 010");
    }

    private static void pinsAreFive() {
        says("Promise 4: false, changing nothing, when it has 5");
        GridRipUp g = grid(8, 1, 1, 0, pins(0, 0, 0, 0, 1, 0, 0, 2, 0, 0, 4, 0));
        due("a fifth", g.pin(0, 0, 5, 0), true);
        due("a sixth of an open net", g.pin(0, 0, 6, 0), false);
        due("run", g.run(1) + " " + way(g, 0), "0 000 010 020 040 030 050");
        due("a sixth of a led one", g.pin(0, 0, 6, 0) + " " + g.pin(0, 0, 3, 0), "false false");
        due("it is led still", g.joined(0) + " " + g.costOf(0) + " " + way(g, 0), "true 10 000 010 020 040 030 050");
        due("the cell is not held", g.bar(0, 6, 0), true);
        due("another net has room", g.net() + " " + g.pin(1, 0, 7, 0), "1 true");
    }

    private static void pinThrows() {
        says("Promise 4: IndexOutOfBoundsException, when there is no such net or cell");
        dueNoSuchNet((g, net) -> g.pin(net, 0, 0, 0));
        GridRipUp g = grid(4, 3, 2, 0, pins(0, 0, 0, 0, 3, 0));
        g.run(1);
        dueNoSuchCell((layer, i, j) -> g.pin(0, layer, i, j));
        dueNoSuchNet(1, net -> g.pin(net, 0, 0, 0));
        dueIndex("no such net and cell", () -> g.pin(1, 0, 0, 3));
        due("changes nothing", way(g, 0), "000 030 020 010");
        GridRipUp full = grid(5, 1, 1, 0, pins(0, 0, 0, 0, 1, 0, 0, 2, 0, 0, 3, 0, 0, 4, 0));
        dueIndex("of a net that has 5, too", () -> full.pin(0, 0, 5, 0));
    }

    private static void costTellsWhetherOneWasAnother() {
        says("Promise 5: COSTS of a layer: whether one was another");
        GridRipUp g = new GridRipUp(2, 2, 4, 0);
        for (int layer = 0; layer < 4; layer++) {
            due("0 at first", g.cost(layer, 0, 0, 0), false);
            due("the greatest, again", g.cost(layer, 50, 50, 50) + " " + g.cost(layer, 50, 50, 50), "true false");
            due("one", g.cost(layer, 0, 50, 50) + " " + g.cost(layer, 0, 50, 50), "true false");
            due("two", g.cost(layer, 0, 0, 50) + " " + g.cost(layer, 0, 0, 50), "true false");
            due("three", g.cost(layer, 0, 0, 0) + " " + g.cost(layer, 0, 0, 0), "true false");
            due("changed about", g.cost(layer, 1, 2, 3) + " " + g.cost(layer, 3, 1, 2), "true true");
        }
    }

    private static void costThrows() {
        GridRipUp g = new GridRipUp(2, 2, 3, 0);
        for (int layer = 0; layer < 3; layer++) {
            g.cost(layer, 5, 6, 7);
        }
        says("Promise 5: IndexOutOfBoundsException, when there is no such layer");
        for (int layer : new int[] {-1, 3, 4, LEAST, GREATEST}) {
            dueIndex("layer " + layer, () -> g.cost(layer, 0, 0, 0));
            dueIndex("layer " + layer + " with wrong costs", () -> g.cost(layer, -1, 51, -1));
        }
        says("Promise 5: IllegalArgumentException, when one is not 0 .. 50");
        for (int wrong : new int[] {-1, 51, LEAST, GREATEST}) {
            dueArgument("across " + wrong, () -> g.cost(0, wrong, 0, 0));
            dueArgument("via " + wrong, () -> g.cost(1, 0, wrong, 0));
            dueArgument("near " + wrong, () -> g.cost(2, 0, 0, wrong));
            dueArgument("all " + wrong, () -> g.cost(2, wrong, wrong, wrong));
        }
        for (int layer = 0; layer < 3; layer++) {
            due("a call that throws changes nothing", g.cost(layer, 5, 6, 7), false);
        }
    }

    private static void runPlaysSoManyRounds() {
        says("Promise 6: So many ROUNDS (1 .. 20): how many are OPEN then");
        for (int rounds = 1; rounds <= 20; rounds++) {
            GridRipUp g = crossing(1);
            due("open", g.run(rounds), 1);
            due("rounds", g.round() + " " + g.history(0, 1, 1), rounds + " " + rounds);
        }
        GridRipUp twelve = new GridRipUp(3, 12, 1, 0);
        for (int n = 0; n < 12; n++) {
            addPins(twelve, twelve.net(), 0, 0, n, 0, 2, n);
            addBars(twelve, 0, 1, n);
        }
        due("all 12", twelve.run(20), 12);
        says("Promise 6: IllegalArgumentException, when rounds are not so");
        GridRipUp g = crossing(1);
        for (int rounds : new int[] {0, -1, -20, 21, 22, LEAST, GREATEST}) {
            dueArgument(rounds + " rounds", () -> g.run(rounds));
            dueArgument(rounds + " rounds when no net is open", () -> new GridRipUp(1, 1, 1, 0).run(rounds));
        }
        due("no round by that", g.round(), 0);
        // a draw by that would change who of both is ripped by some of these seeds
        for (int seed = 0; seed < 32; seed++) {
            GridRipUp asked = crossing(1, seed);
            dueArgument("0 rounds", () -> asked.run(0));
            dueRippedAsByNewObject("no draw by that", asked, seed);
        }
    }

    private static void dueRippedAsByNewObject(String what, GridRipUp g, int seed) {
        GridRipUp fresh = crossing(1, seed);
        due(what, g.run(1) + " " + openNets(g), fresh.run(1) + " " + openNets(fresh));
    }

    private static void runPlaysNoneWhenNoneIsOpen() {
        says("Promise 6: but none when no net is OPEN");
        GridRipUp g = new GridRipUp(3, 3, 1, 0);
        due("no nets", g.run(20) + " " + g.round(), "0 0");
        g.net();
        g.net();
        due("nets without pins", g.run(1) + " " + g.round(), "0 0");
        addPins(g, 0, 0, 0, 1, 0, 2, 1);
        due("led in the first of 20", g.run(20) + " " + g.round(), "0 1");
        due("all are led", g.run(20) + " " + g.round(), "0 1");
        GridRipUp three = grid(5, 3, 1, 0, pins(0, 1, 0, 0, 1, 2), pins());
        due("net 0 is led", three.run(1), 0);
        addPins(three, 1, 0, 0, 1, 0, 2, 1);
        due("net 1 rips it; the next round leads it round net 1", three.run(20) + " " + three.round(), "0 3");
        for (int seed = 0; seed < 32; seed++) {
            GridRipUp empty = new GridRipUp(3, 3, 1, seed);
            empty.run(1);
            addPins(empty, empty.net(), 0, 0, 1, 0, 2, 1);
            addPins(empty, empty.net(), 0, 1, 0, 0, 1, 2);
            dueRippedAsByNewObject("no draw by that", empty, seed);
        }
    }

    private static void pieceThrows() {
        says("Promise 7: IndexOutOfBoundsException, when there is no such net");
        dueNoSuchNet((g, net) -> g.piece(net, 0, 0));
        GridRipUp g = grid(4, 3, 2, 0, pins(1, 3, 2, 1, 3, 1), pins(0, 0, 0));
        g.run(1);
        due("the first and the last", way(g, 0) + " " + way(g, 1), "132 131 000");
        says("Promise 7: IndexOutOfBoundsException, when there is no such cell");
        for (int k : new int[] {-1, 2, 3, LEAST, GREATEST}) {
            dueIndex("k " + k, () -> g.piece(0, k, 0));
        }
        dueIndex("k 1 of a net of one pin", () -> g.piece(1, 1, 0));
        says("Promise 7: IndexOutOfBoundsException, when there is no such what");
        for (int what : new int[] {-1, 3, 4, LEAST, GREATEST}) {
            dueIndex("what " + what, () -> g.piece(0, 0, what));
        }
        says("Promise 7: layer (what 0), i (1), j (2)");
        due("layer, i, j", g.piece(0, 1, 0) + " " + g.piece(0, 1, 1) + " " + g.piece(0, 1, 2), "1 3 1");
    }

    private static void pieceOfAnOpenNet() {
        says("Promise 7: none of an OPEN one");
        GridRipUp g = grid(3, 3, 1, 0, pins(0, 0, 1, 0, 2, 1), pins(0, 1, 0, 0, 1, 2), pins());
        dueIndex("never led", () -> g.piece(0, 0, 0));
        dueIndex("without pins", () -> g.piece(2, 0, 0));
        g.run(1);
        dueIndex("ripped", () -> g.piece(0, 0, 0));
        addPins(g, 1, 0, 0, 0);
        dueIndex("with a new pin", () -> g.piece(1, 0, 0));
        GridRipUp blocked = grid(3, 1, 1, 0, pins(0, 0, 0, 0, 2, 0), pins(0, 1, 0));
        blocked.run(1);
        dueIndex("blocked", () -> blocked.piece(0, 0, 0));
        GridRipUp shorter = grid(5, 3, 1, 0, pins(0, 0, 0, 0, 4, 0));
        addBars(shorter, 0, 2, 0);
        shorter.run(1);
        due("a long way", way(shorter, 0), "000 040 030 031 021 011 010");
        addPins(shorter, 0, 0, 1, 1, 0, 3, 1, 0, 2, 1);
        shorter.run(1);
        due("a way in another order", way(shorter, 0), "000 011 010 021 031 040 030");
    }

    private static void pieceWhereAnotherWent() {
        says("Promise 7: in the order in which they came into its tree");
        GridRipUp g = grid(5, 1, 1, 0, pins(0, 0, 0, 0, 4, 0), pins());
        due("net 0 goes over all", g.run(1) + " " + way(g, 0), "0 000 040 030 020 010");
        addPins(g, 0, 0, 3, 0);
        addPins(g, 1, 0, 1, 0, 0, 2, 0);
        due("net 1's first pin lies where net 0's last cell was", g.run(1) + " " + way(g, 1), "1 010 020");
    }

    private static void costOfIsNone() {
        says("Promise 8: NONE when it is not LED");
        GridRipUp g = grid(3, 3, 1, 0, pins(0, 0, 1, 0, 2, 1), pins(0, 1, 0, 0, 1, 2), pins());
        due("open", g.costOf(0), NONE);
        due("without pins", g.costOf(2), NONE);
        g.run(1);
        due("ripped", g.costOf(0), NONE);
        addPins(g, 1, 0, 0, 0);
        due("with a new pin", g.costOf(1), NONE);
        says("Promise 8: A net's COST, when it was LED");
        GridRipUp led = grid(4, 1, 1, 0, pins(0, 0, 0), pins(0, 3, 0));
        due("one pin", led.run(1) + " " + led.costOf(0), "0 0");
        addPins(led, 0, 0, 1, 0);
        due("two pins", led.run(1) + " " + led.costOf(0), "0 2");
        led.cost(0, 50, 50, 50);
        due("later costs are not in it", led.costOf(0), 2);
        addPins(led, 0, 0, 2, 0);
        due("led again: not both costs", led.run(1) + " " + led.costOf(0), "0 54");
        says("Promise 8: IndexOutOfBoundsException, when there is no such net");
        dueNoSuchNet((h, net) -> h.costOf(net));
    }

    private static void rippedHowOften() {
        says("Promise 9: How often a net was ripped");
        GridRipUp g = grid(3, 3, 1, 0, pins(0, 0, 1, 0, 2, 1), pins(0, 1, 0, 0, 1, 2), pins());
        due("never", "" + g.ripped(0) + g.ripped(1) + g.ripped(2), "000");
        g.run(1);
        due("once", "" + g.ripped(0) + g.ripped(1), "10");
        addPins(g, 1, 0, 0, 0);
        due("not by a pin", g.ripped(1), 0);
        GridRipUp blocked = grid(3, 1, 1, 0, pins(0, 0, 0, 0, 2, 0), pins(0, 1, 0));
        blocked.run(20);
        due("not by being blocked", blocked.ripped(0) + " " + blocked.ripped(1), "0 0");
        GridRipUp often = crossing(1);
        often.run(20);
        often.run(20);
        due("in turn, 40 rounds", often.ripped(0) + " " + often.ripped(1), "20 20");
        says("Promise 9: IndexOutOfBoundsException likewise");
        dueNoSuchNet((h, net) -> h.ripped(net));
    }

    private static void historyOfEachCell() {
        says("Promise 10: A cell's HISTORY");
        GridRipUp g = crossing(2);
        for (int cell = 0; cell < 9; cell++) {
            due("0 at first", g.history(0, cell % 3, cell / 3) + g.history(1, cell % 3, cell / 3), 0);
            addBars(g, 1, cell % 3, cell / 3);
        }
        g.run(3);
        for (int cell = 0; cell < 18; cell++) {
            due("of the crossing alone", g.history(cell / 9, cell % 3, cell / 3 % 3), cell == 4 ? 3 : 0);
        }
        says("Promise 10: IndexOutOfBoundsException, when there is no such cell");
        GridRipUp small = new GridRipUp(4, 3, 2, 0);
        due("the last cell", small.history(1, 3, 2), 0);
        dueNoSuchCell((layer, i, j) -> small.history(layer, i, j));
    }

    private static void openByNumber() {
        says("Promise 11: The k-th net, rising, that is OPEN; NONE, when there are not so many (or k is below 0)");
        GridRipUp none = new GridRipUp(12, 1, 1, 0);
        due("no nets", none.open(0) + " " + none.open(-1), "-1 -1");
        for (int n = 0; n < 12; n++) {
            none.net();
        }
        due("none with pins", none.open(0), NONE);
        for (int n = 11; n >= 0; n--) {
            addPins(none, n, 0, n, 0);
        }
        for (int k = 0; k < 12; k++) {
            due("all 12 are", none.open(k), k);
        }
        for (int k : new int[] {12, 13, 32, GREATEST, -1, -2, -12, LEAST}) {
            due("k " + k, none.open(k), NONE);
        }
        due("led, none is", none.run(1) + " " + none.open(0), "0 -1");
        GridRipUp g = grid(7, 1, 1, 0, pins(0, 0, 0, 0, 2, 0), pins(0, 1, 0), pins(), pins(0, 4, 0, 0, 6, 0), pins(0, 5, 0));
        g.run(1);
        due("led ones, and those without pins, are none", openNets(g), "0 3");
    }

    private static void blockingByNumber() {
        says("Promise 12: The k-th net, rising, by which a net was BLOCKED; NONE, when there are not so many");
        GridRipUp g = grid(7, 2, 1, 0, pins(), pins(0, 2, 1), pins(0, 1, 1), pins(), pins(0, 3, 0), pins(0, 0, 1));
        addPins(g, 3, 0, 0, 0, 0, 6, 0);
        due("run", g.run(1) + " " + openNets(g), "1 3");
        due("0, 1, 2, 3", g.blocking(3, 0) + " " + g.blocking(3, 1) + " " + g.blocking(3, 2) + " " + g.blocking(3, 3),
                "1 2 4 5");
        for (int k : new int[] {4, 5, 12, 32, GREATEST}) {
            due("k " + k, g.blocking(3, k), NONE);
        }
        says("Promise 12: NONE, when k is below 0");
        for (int k : new int[] {-1, -2, LEAST}) {
            due("k " + k, g.blocking(3, k), NONE);
        }
        says("Promise 12: IndexOutOfBoundsException, when there is no such net");
        dueNoSuchNet((h, net) -> h.blocking(net, 0));
        dueNoSuchNet((h, net) -> h.blocking(net, -1));
    }

    private static void blockingOfTheLastTime() {
        says("Promise 12: when it was last to be LED");
        GridRipUp g = grid(5, 2, 1, 0, pins(0, 0, 0, 0, 4, 0), pins(0, 2, 0), pins(), pins(0, 2, 1));
        due("never yet", blockers(g, 0), "");
        g.run(1);
        due("the first time", blockers(g, 0), "1 3");
        addPins(g, 2, 0, 0, 1);
        addBars(g, 0, 1, 1);
        due("no other pin or bar changes it", blockers(g, 0), "1 3");
        addPins(g, 0, 0, 1, 0);
        due("nor its own pin", blockers(g, 0), "1 3");
        g.run(1);
        due("the second time", blockers(g, 0), "1 2");
        says("Promise 12: NONE, when that was done");
        due("led", g.joined(1) + " " + blockers(g, 1), "true ");
        due("without pins", blockers(grid(1, 1, 1, 0, pins()), 0), "");
        GridRipUp ripped = crossing(1);
        ripped.run(1);
        due("led, and ripped then", ripped.joined(0) + " " + blockers(ripped, 0), "false ");
        GridRipUp bars = grid(3, 1, 1, 0, pins(0, 0, 0, 0, 2, 0));
        addBars(bars, 0, 1, 0);
        due("blocked by bars alone", bars.run(1) + " " + blockers(bars, 0), "1 ");
    }

    private static void joinedWhenLed() {
        says("Promise 13: Whether a net is LED");
        GridRipUp g = grid(3, 3, 1, 0, pins(0, 0, 1, 0, 2, 1), pins(0, 1, 0, 0, 1, 2), pins(), pins(0, 0, 0));
        due("none yet", "" + g.joined(0) + g.joined(1) + g.joined(2) + g.joined(3), "falsefalsefalsefalse");
        g.run(1);
        due("one of the crossing, and that of one pin", "" + (g.joined(0) != g.joined(1)) + g.joined(2) + g.joined(3),
                "truefalsetrue");
        due("no pin when refused", g.pin(3, 0, 0, 1) + " " + g.joined(3), "false true");
        due("a new pin", g.pin(3, 0, 2, 2) + " " + g.joined(3), "true false");
        says("Promise 13: IndexOutOfBoundsException likewise");
        dueNoSuchNet((h, net) -> h.joined(net));
    }

    private static void corridorBlocks() {
        says("Promise 14: blocks of 4 by 4 cells (of all layers; numbered row by row from 0, (x + 3) / 4 in a row)");
        for (int x = 1; x <= 16; x++) {
            int inARow = (x + 3) / 4;
            for (int j : new int[] {0, 3, 4, 7, 8, 11, 12, 15}) {
                GridRipUp g = grid(x, 16, 4, 0, pins(0, x - 1, j), pins(3, 0, j));
                due("last i of x " + x + ", j " + j, corridor(g, 0), j / 4 * inARow + (x - 1) / 4);
                due("first i of x " + x + ", j " + j, corridor(g, 1), j / 4 * inARow);
            }
        }
        GridRipUp layers = grid(5, 5, 4, 0, pins(0, 4, 4, 1, 3, 3, 2, 4, 3, 3, 4, 4, 3, 0, 0));
        due("a block once, rising", corridor(layers, 0), "0 1 3");
        says("Promise 14: in which a net HOLDS cells");
        GridRipUp g = grid(16, 1, 1, 0, pins(0, 15, 0, 0, 0, 0), pins());
        due("an open net's pins", corridor(g, 0), "0 3");
        due("without pins", corridor(g, 1), "");
        due("a led net's ways", g.run(1) + " " + corridor(g, 0), "0 0 1 2 3");
        addPins(g, 0, 0, 4, 0);
        due("its pins again", corridor(g, 0), "0 1 3");
        GridRipUp ripped = grid(9, 9, 1, 0, pins(0, 0, 4, 0, 8, 4), pins(0, 4, 0, 0, 4, 8));
        due("a ripped net's pins", ripped.run(1) + " " + corridor(ripped, 0) + " " + corridor(ripped, 1), "1 3 5 1 4 7");
    }

    private static void corridorByNumber() {
        says("Promise 14: The k-th block; NONE, when there are not so many (or k is below 0)");
        GridRipUp g = grid(16, 16, 1, 0, pins(0, 0, 0, 0, 0, 12));
        for (int j = 0; j < 12; j++) {
            // a way to and fro, with a gap at either end in turn
            int gap = j / 4 % 2 == 0 ? 15 : 0;
            for (int i = 0; i < 16; i++) {
                if (j % 4 != 0 && i != gap) {
                    addBars(g, 0, i, j);
                }
            }
        }
        due("pins", corridor(g, 0), "0 12");
        due("led", g.run(1), 0);
        for (int k = 0; k < 16; k++) {
            due("through all 16", g.corridor(0, k), k);
        }
        for (int k : new int[] {16, 17, 32, GREATEST, -1, -2, -16, LEAST}) {
            due("k " + k, g.corridor(0, k), NONE);
        }
        says("Promise 14: IndexOutOfBoundsException likewise");
        dueNoSuchNet((h, net) -> h.corridor(net, 0));
        dueNoSuchNet((h, net) -> h.corridor(net, -1));
    }

    private static void roundsAreCounted() {
        says("Promise 15: How many ROUNDS there were");
        GridRipUp g = crossing(1);
        due("none", g.round(), 0);
        g.run(1);
        due("1", g.round(), 1);
        g.run(20);
        due("21", g.round(), 21);
        dueArgument("run(21)", () -> g.run(21));
        due("none by a refused run", g.round(), 21);
        GridRipUp led = grid(1, 1, 1, 0, pins(0, 0, 0));
        led.run(20);
        led.run(20);
        due("one, since no net is open then", led.round(), 1);
    }

    private static void bandWhenLed() {
        says("Promise 16: Whether a net is LED");
        GridRipUp g = grid(3, 3, 1, 0, pins(0, 0, 1, 0, 2, 1), pins(0, 1, 0, 0, 1, 2), pins(), pins(0, 0, 0));
        due("none yet", "" + g.band(0) + g.band(1) + g.band(2) + g.band(3), "falsefalsefalsefalse");
        g.run(1);
        due("led, without a bend", "" + (g.band(0) != g.band(1)) + g.band(2) + g.band(3), "truefalsetrue");
        addPins(g, 3, 0, 2, 2);
        due("open again", g.band(3), false);
        due("a grid of one cell", bandOf(grid(1, 1, 1, 0, pins(0, 0, 0))), true);
        says("Promise 16: IndexOutOfBoundsException likewise");
        dueNoSuchNet((h, net) -> h.band(net));
    }

    private static boolean bandOf(GridRipUp g) {
        due("led", g.run(1), 0);
        return g.band(0);
    }

    private static void bandAtEachCorner() {
        says("Promise 16: the cell beside both (not itself) is neither BARRED nor HELD by another net");
        for (int layer = 0; layer < 4; layer++) {
            for (int corner = 0; corner < 4; corner++) {
                int i = corner % 2 * 2;
                int j = corner / 2 * 2;
                int[] bend = pins(layer, 1, 1, layer, i, 1, layer, 1, j);
                due("a free corner", bandOf(grid(3, 3, 4, 0, bend)), true);
                due("a corner of its own", bandOf(grid(3, 3, 4, 0, pins(layer, 1, 1, layer, i, 1, layer, 1, j,
                        layer, i, j))), true);
                due("another's pin", bandOf(grid(3, 3, 4, 0, bend, pins(layer, i, j))), false);
                GridRipUp barred = grid(3, 3, 4, 0, bend);
                addBars(barred, layer, i, j);
                due("a barred corner", bandOf(barred), false);
                GridRipUp others = grid(3, 3, 4, 0, bend);
                addBars(others, layer, 2 - i, 2 - j, layer, 2 - i, j, layer, i, 2 - j);
                due("the three other corners", bandOf(others), true);
                GridRipUp above = grid(3, 3, 4, 0, bend);
                addBars(above, layer == 3 ? 2 : layer + 1, i, j);
                due("the corner's neighbour on another layer", bandOf(above), true);
            }
        }
    }

    private static void bandOfAnothersWay() {
        says("Promise 16: nor HELD by another net, as by its way");
        GridRipUp g = grid(4, 4, 1, 0, pins(0, 1, 0, 0, 0, 0, 0, 0, 1), pins());
        due("a free corner", bandOf(g), true);
        addPins(g, 1, 0, 2, 1, 0, 1, 2);
        addBars(g, 0, 2, 2);
        due("another's way through it", g.run(1) + " " + way(g, 1) + " " + g.band(0), "0 021 012 011 false");
        addPins(g, 1, 0, 3, 1);
        due("another's that is open again", g.band(0), true);
    }

    private static void bandWithoutBends() {
        says("Promise 16: at each of its cells that has a neighbour of it along i and one along j");
        GridRipUp straight = grid(3, 3, 1, 0, pins(0, 0, 1, 0, 2, 1));
        addBars(straight, 0, 0, 0, 0, 1, 0, 0, 2, 0, 0, 0, 2, 0, 1, 2, 0, 2, 2);
        due("two along i, none along j", bandOf(straight), true);
        GridRipUp upright = grid(3, 3, 1, 0, pins(0, 1, 0, 0, 1, 2));
        addBars(upright, 0, 0, 0, 0, 0, 1, 0, 0, 2, 0, 2, 0, 0, 2, 1, 0, 2, 2);
        due("two along j, none along i", bandOf(upright), true);
        GridRipUp via = grid(2, 2, 2, 0, pins(0, 0, 0, 0, 1, 0, 1, 1, 0, 1, 1, 1));
        addBars(via, 0, 0, 1, 0, 1, 1, 1, 0, 0, 1, 0, 1);
        due("a via between is no bend", bandOf(via), true);
        GridRipUp ends = grid(3, 3, 1, 0, pins(0, 0, 0, 0, 1, 0, 0, 2, 0, 0, 0, 1, 0, 2, 1));
        addBars(ends, 0, 0, 2);
        due("the next row's first cell is no neighbour", bandOf(ends), true);
        addBars(ends, 0, 1, 1);
        due("but the corner of both bends", ends.band(0), false);
        GridRipUp turns = grid(3, 2, 1, 0, pins(0, 0, 0, 0, 2, 0));
        addBars(turns, 0, 1, 0);
        due("a way round a bar", bandOf(turns), false);
        GridRipUp beside = grid(2, 3, 1, 0, pins(0, 0, 0, 0, 0, 1, 0, 0, 2, 0, 1, 1));
        addBars(beside, 0, 1, 2);
        due("a branch", bandOf(beside), false);
        // 1, 0 is joined to 0, 0, so no way goes between it and 1, 1
        GridRipUp apart = grid(3, 2, 1, 0, pins(0, 0, 0, 0, 0, 1, 0, 1, 1, 0, 2, 1, 0, 1, 0));
        addBars(apart, 0, 2, 0);
        due("neighbours without a way between", bandOf(apart), false);
    }

    public static void main(String[] args) {
        newObject();
        barIsForGood();
        barOfHeldCell();
        netsAreTwelve();
        pinOpensALedNet();
        pinIsRefused();
        pinsAreFive();
        pinThrows();
        costTellsWhetherOneWasAnother();
        costThrows();
        runPlaysSoManyRounds();
        runPlaysNoneWhenNoneIsOpen();
        pieceThrows();
        pieceOfAnOpenNet();
        pieceWhereAnotherWent();
        costOfIsNone();
        rippedHowOften();
        historyOfEachCell();
        openByNumber();
        blockingByNumber();
        blockingOfTheLastTime();
        joinedWhenLed();
        corridorBlocks();
        corridorByNumber();
        roundsAreCounted();
        bandWhenLed();
        bandAtEachCorner();
        bandOfAnothersWay();
        bandWithoutBends();
        endWithCode();
    }
}
