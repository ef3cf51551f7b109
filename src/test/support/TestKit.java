/** What the tests share: answers held against those that are due, and short ways to set up and read a grid. */
abstract class TestKit {
    static final int NONE = GridRipUp.NONE;
    private static String sentence = "";
    private static int wrong = 0;

    interface Call {
        Object answer();
    }

    /** Names the sentence or promise that the answers after this are held against. */
    static void says(String what) {
        sentence = what;
    }

    static void due(String what, Object got, Object want) {
        if (!String.valueOf(got).equals(String.valueOf(want))) {
            wrong++;
            System.out.println(sentence + ": " + what + " answered " + got + ", due is " + want);
        }
    }

    static void dueThrow(String what, Class<?> want, Call call) {
        Object got;
        try {
            got = call.answer();
        } catch (RuntimeException e) {
            // the very class: what the machine throws is of a class below
            got = e.getClass();
        }
        due(what, got, want);
    }

    static void dueIndex(String what, Call call) {
        dueThrow(what, IndexOutOfBoundsException.class, call);
    }

    static void dueArgument(String what, Call call) {
        dueThrow(what, IllegalArgumentException.class, call);
    }

    static void endWithCode() {
        System.out.println(wrong == 0 ? "all answers are as due" : wrong + " answers are not as due");
        if (wrong != 0) {
            System.exit(1);
        }
    }

    /** A grid with a new net for each row of pins, each pin as layer, i, j. */
    static GridRipUp grid(int x, int y, int layers, long seed, int[]... nets) {
        GridRipUp g = new GridRipUp(x, y, layers, seed);
        for (int[] pins : nets) {
            addPins(g, g.net(), pins);
        }
        return g;
    }

    static void addPins(GridRipUp g, int net, int... pins) {
        for (int p = 0; p + 2 < pins.length; p += 3) {
            due("pin of the set-up", g.pin(net, pins[p], pins[p + 1], pins[p + 2]), true);
        }
    }

    static void addBars(GridRipUp g, int... cells) {
        for (int c = 0; c + 2 < cells.length; c += 3) {
            due("bar of the set-up", g.bar(cells[c], cells[c + 1], cells[c + 2]), true);
        }
    }

    static int[] pins(int... places) {
        return places;
    }

    /** Two nets cross; by seed 0 net 1 is led last, and rips net 0. */
    static GridRipUp crossing(int layers) {
        return crossing(layers, 0);
    }

    static GridRipUp crossing(int layers, long seed) {
        return grid(3, 3, layers, seed, pins(0, 0, 1, 0, 2, 1), pins(0, 1, 0, 0, 1, 2));
    }

    static String way(GridRipUp g, int net) {
        StringBuilder all = new StringBuilder();
        try {
            for (int k = 0; k < 2000; k++) {
                all.append(g.piece(net, k, 0)).append(g.piece(net, k, 1)).append(g.piece(net, k, 2)).append(' ');
            }
        } catch (IndexOutOfBoundsException end) {
            return all.toString().trim();
        }
        return "no end";
    }

    static String openNets(GridRipUp g) {
        StringBuilder all = new StringBuilder();
        for (int k = 0; k < 20 && g.open(k) != NONE; k++) {
            all.append(g.open(k)).append(' ');
        }
        return all.toString().trim();
    }

    static String blockers(GridRipUp g, int net) {
        StringBuilder all = new StringBuilder();
        for (int k = 0; k < 20 && g.blocking(net, k) != NONE; k++) {
            all.append(g.blocking(net, k)).append(' ');
        }
        return all.toString().trim();
    }

    static String corridor(GridRipUp g, int net) {
        StringBuilder all = new StringBuilder();
        for (int k = 0; k < 40 && g.corridor(net, k) != NONE; k++) {
            all.append(g.corridor(net, k)).append(' ');
        }
        return all.toString().trim();
    }
}
