import java.util.ArrayList;
import java.util.Collections;
import java.util.List;
import java.util.Random;
import java.util.TreeSet;

/** Random runs of calls, each answer held against a slow model that is written from the document alone. */
public final class ModelTest {
    private static final long THROWS_INDEX = Long.MIN_VALUE;
    private static final long THROWS_ARGUMENT = Long.MIN_VALUE + 1;
    private static int wrong = 0;

    /** The document, word by word, with no care for speed. */
    private static final class Model {
        final int x;
        final int y;
        final int layers;
        long s;
        int rounds = 0;
        final TreeSet<Integer> barred = new TreeSet<>();
        final long[] histories;
        final int[][] costs;
        final List<ModelNet> nets = new ArrayList<>();

        Model(int x, int y, int layers, long seed) {
            this.x = x < 1 ? 1 : x > 16 ? 16 : x;
            this.y = y < 1 ? 1 : y > 16 ? 16 : y;
            this.layers = layers < 1 ? 1 : layers > 4 ? 4 : layers;
            s = seed;
            histories = new long[this.x * this.y * this.layers];
            costs = new int[this.layers][3];
        }

        int cell(int l, int i, int j) {
            return l < 0 || l >= layers || i < 0 || i >= x || j < 0 || j >= y ? -1 : (l * y + j) * x + i;
        }

        int[] place(int cell) {
            for (int l = 0; l < layers; l++) {
                for (int j = 0; j < y; j++) {
                    for (int i = 0; i < x; i++) {
                        if (cell(l, i, j) == cell) {
                            return new int[] {l, i, j};
                        }
                    }
                }
            }
            throw new IllegalStateException("no place for " + cell);
        }

        TreeSet<Integer> beside(int cell) {
            int[] p = place(cell);
            TreeSet<Integer> all = new TreeSet<>();
            all.add(cell(p[0], p[1] - 1, p[2]));
            all.add(cell(p[0], p[1] + 1, p[2]));
            all.add(cell(p[0], p[1], p[2] - 1));
            all.add(cell(p[0], p[1], p[2] + 1));
            all.remove(-1);
            return all;
        }

        TreeSet<Integer> neighbours(int cell) {
            int[] p = place(cell);
            TreeSet<Integer> all = beside(cell);
            all.add(cell(p[0] - 1, p[1], p[2]));
            all.add(cell(p[0] + 1, p[1], p[2]));
            all.remove(-1);
            return all;
        }

        int holder(int cell) {
            for (int n = 0; n < nets.size(); n++) {
                if (nets.get(n).holds().contains(cell)) {
                    return n;
                }
            }
            return -1;
        }

        boolean otherHolds(int cell, int net) {
            int h = holder(cell);
            return h != -1 && h != net;
        }

        long step(int from, int to, int net) {
            int[] a = place(from);
            int[] b = place(to);
            long sum = 2;
            if (a[0] != b[0]) {
                sum += costs[Math.min(a[0], b[0])][1];
            } else if (a[2] != b[2]) {
                sum += a[0] == 0 || a[0] == 2 ? costs[a[0]][0] : 0;
            } else {
                sum += a[0] == 1 || a[0] == 3 ? costs[a[0]][0] : 0;
            }
            for (int c : beside(to)) {
                sum += otherHolds(c, net) ? costs[b[0]][2] : 0;
            }
            return sum + histories[to];
        }

        boolean mayEnter(int cell, int net, boolean ripping) {
            if (barred.contains(cell)) {
                return false;
            }
            if (!otherHolds(cell, net)) {
                return true;
            }
            return ripping && !nets.get(holder(cell)).pins.contains(cell);
        }

        /** The price of going from a to b for every pair of neighbours, found once for each search. */
        List<long[]> steps(int net, boolean ripping) {
            List<long[]> all = new ArrayList<>();
            for (int to = 0; to < histories.length; to++) {
                if (mayEnter(to, net, ripping)) {
                    for (int from : neighbours(to)) {
                        all.add(new long[] {from, to, step(from, to, net) + (otherHolds(to, net) ? 100 : 0)});
                    }
                }
            }
            return all;
        }

        Long[] distances(List<Integer> tree, List<long[]> steps) {
            Long[] d = new Long[histories.length];
            for (int c : tree) {
                d[c] = 0L;
            }
            boolean changed = true;
            while (changed) {
                changed = false;
                for (long[] st : steps) {
                    Long a = d[(int) st[0]];
                    Long b = d[(int) st[1]];
                    if (a != null && (b == null || a + st[2] < b)) {
                        d[(int) st[1]] = a + st[2];
                        changed = true;
                    }
                }
            }
            return d;
        }

        int nearest(ModelNet net, List<Integer> tree, Long[] d) {
            int best = -1;
            for (int p : net.pins) {
                if (!tree.contains(p) && d[p] != null && (best == -1 || d[p] < d[best])) {
                    best = p;
                }
            }
            return best;
        }

        int before(int cell, Long[] d, List<long[]> steps) {
            int lowest = Integer.MAX_VALUE;
            for (long[] st : steps) {
                Long a = d[(int) st[0]];
                if (st[1] == cell && a != null && a + st[2] == d[cell]) {
                    lowest = Math.min(lowest, (int) st[0]);
                }
            }
            return lowest;
        }

        TreeSet<Integer> blockers(int number, Long[] d) {
            TreeSet<Integer> found = new TreeSet<>();
            for (int c = 0; c < d.length; c++) {
                if (d[c] != null) {
                    for (int o : neighbours(c)) {
                        if (otherHolds(o, number)) {
                            found.add(holder(o));
                        }
                    }
                }
            }
            return found;
        }

        void lead(int number) {
            ModelNet net = nets.get(number);
            List<Integer> tree = new ArrayList<>();
            tree.add(net.pins.get(0));
            long price = 0;
            while (!tree.containsAll(net.pins)) {
                List<long[]> steps = steps(number, false);
                Long[] d = distances(tree, steps);
                int pin = nearest(net, tree, d);
                if (pin == -1) {
                    Long[] free = d;
                    steps = steps(number, true);
                    d = distances(tree, steps);
                    pin = nearest(net, tree, d);
                    if (pin == -1) {
                        net.blockedBy = blockers(number, free);
                        return;
                    }
                }
                price += d[pin];
                List<Integer> back = new ArrayList<>();
                for (int c = pin; !tree.contains(c); c = before(c, d, steps)) {
                    back.add(c);
                }
                rip(number, back);
                tree.addAll(back);
            }
            net.way = tree;
            net.price = price;
            net.blockedBy = new TreeSet<>();
        }

        void rip(int number, List<Integer> back) {
            TreeSet<Integer> inTheWay = new TreeSet<>();
            for (int c : back) {
                if (otherHolds(c, number)) {
                    inTheWay.add(holder(c));
                    histories[c]++;
                }
            }
            for (int n : inTheWay) {
                nets.get(n).way = null;
                nets.get(n).ripped++;
            }
        }

        List<Integer> open() {
            List<Integer> all = new ArrayList<>();
            for (int n = 0; n < nets.size(); n++) {
                if (!nets.get(n).pins.isEmpty() && nets.get(n).way == null) {
                    all.add(n);
                }
            }
            return all;
        }

        long run(int wanted) {
            if (wanted < 1 || wanted > 20) {
                return THROWS_ARGUMENT;
            }
            for (int r = 0; r < wanted && !open().isEmpty(); r++) {
                List<Integer> order = open();
                for (int k = order.size() - 1; k >= 1; k--) {
                    s = s * 6364136223846793005L + 1442695040888963407L;
                    Collections.swap(order, k, (int) ((s >>> 33) % (k + 1)));
                }
                for (int n : order) {
                    if (open().contains(n)) {
                        lead(n);
                    }
                }
                rounds++;
            }
            return open().size();
        }

        boolean noNet(int n) {
            return n < 0 || n >= nets.size();
        }

        long bar(int l, int i, int j) {
            int c = cell(l, i, j);
            return c == -1 ? THROWS_INDEX : holder(c) == -1 && barred.add(c) ? 1 : 0;
        }

        long net() {
            if (nets.size() == 12) {
                return -1;
            }
            nets.add(new ModelNet());
            return nets.size() - 1;
        }

        long pin(int n, int l, int i, int j) {
            int c = cell(l, i, j);
            if (noNet(n) || c == -1) {
                return THROWS_INDEX;
            }
            ModelNet net = nets.get(n);
            if (barred.contains(c) || net.pins.contains(c) || otherHolds(c, n) || net.pins.size() == 5) {
                return 0;
            }
            net.way = null;
            net.pins.add(c);
            return 1;
        }

        long cost(int l, int across, int via, int near) {
            if (l < 0 || l >= layers) {
                return THROWS_INDEX;
            }
            int[] asked = {across, via, near};
            boolean other = false;
            for (int k = 0; k < 3; k++) {
                if (asked[k] < 0 || asked[k] > 50) {
                    return THROWS_ARGUMENT;
                }
                other |= costs[l][k] != asked[k];
            }
            costs[l] = asked;
            return other ? 1 : 0;
        }

        long piece(int n, int k, int what) {
            if (noNet(n) || nets.get(n).way == null || k < 0 || k >= nets.get(n).way.size() || what < 0 || what > 2) {
                return THROWS_INDEX;
            }
            return place(nets.get(n).way.get(k))[what];
        }

        static long at(Iterable<Integer> all, int k) {
            int seen = 0;
            for (int a : all) {
                if (seen++ == k) {
                    return a;
                }
            }
            return -1;
        }

        long corridor(int n, int k) {
            if (noNet(n)) {
                return THROWS_INDEX;
            }
            TreeSet<Integer> blocks = new TreeSet<>();
            for (int c : nets.get(n).holds()) {
                int[] p = place(c);
                blocks.add(p[2] / 4 * ((x + 3) / 4) + p[1] / 4);
            }
            return at(blocks, k);
        }

        long band(int n) {
            if (noNet(n)) {
                return THROWS_INDEX;
            }
            if (nets.get(n).way == null) {
                return 0;
            }
            List<Integer> own = nets.get(n).way;
            for (int c : own) {
                for (int a : beside(c)) {
                    for (int b : beside(c)) {
                        boolean bend = place(a)[2] == place(c)[2] && place(b)[1] == place(c)[1];
                        if (bend && own.contains(a) && own.contains(b)) {
                            TreeSet<Integer> corner = beside(a);
                            corner.retainAll(beside(b));
                            corner.remove(c);
                            for (int o : corner) {
                                if (barred.contains(o) || otherHolds(o, n)) {
                                    return 0;
                                }
                            }
                        }
                    }
                }
            }
            return 1;
        }
    }

    private static final class ModelNet {
        final List<Integer> pins = new ArrayList<>();
        List<Integer> way = null;
        long price = 0;
        int ripped = 0;
        TreeSet<Integer> blockedBy = new TreeSet<>();

        List<Integer> holds() {
            return way == null ? pins : way;
        }
    }

    /** Calls both, and tells the first answers that differ. */
    private static final class Pair {
        final int run;
        final Model model;
        final GridRipUp real;

        Pair(int run, int x, int y, int layers, long seed) {
            this.run = run;
            model = new Model(x, y, layers, seed);
            real = new GridRipUp(x, y, layers, seed);
        }

        long due(int what, int a, int b, int c, int d) {
            boolean none = model.noNet(a);
            switch (what) {
                case 0: return model.bar(a, b, c);
                case 1: return model.net();
                case 2: return model.pin(a, b, c, d);
                case 3: return model.cost(a, b, c, d);
                case 4: return model.run(a);
                case 5: return model.piece(a, b, c);
                case 6: return none ? THROWS_INDEX : model.nets.get(a).way == null ? -1 : model.nets.get(a).price;
                case 7: return none ? THROWS_INDEX : model.nets.get(a).ripped;
                case 8: return model.cell(a, b, c) == -1 ? THROWS_INDEX : model.histories[model.cell(a, b, c)];
                case 9: return Model.at(model.open(), a);
                case 10: return none ? THROWS_INDEX : Model.at(model.nets.get(a).blockedBy, b);
                case 11: return none ? THROWS_INDEX : model.nets.get(a).way == null ? 0 : 1;
                case 12: return model.corridor(a, b);
                case 13: return model.rounds;
                default: return model.band(a);
            }
        }

        long answer(int what, int a, int b, int c, int d) {
            switch (what) {
                case 0: return real.bar(a, b, c) ? 1 : 0;
                case 1: return real.net();
                case 2: return real.pin(a, b, c, d) ? 1 : 0;
                case 3: return real.cost(a, b, c, d) ? 1 : 0;
                case 4: return real.run(a);
                case 5: return real.piece(a, b, c);
                case 6: return real.costOf(a);
                case 7: return real.ripped(a);
                case 8: return real.history(a, b, c);
                case 9: return real.open(a);
                case 10: return real.blocking(a, b);
                case 11: return real.joined(a) ? 1 : 0;
                case 12: return real.corridor(a, b);
                case 13: return real.round();
                default: return real.band(a) ? 1 : 0;
            }
        }

        long call(int what, int... args) {
            int[] p = java.util.Arrays.copyOf(args, 4);
            long due = due(what, p[0], p[1], p[2], p[3]);
            long got;
            try {
                got = answer(what, p[0], p[1], p[2], p[3]);
            } catch (IndexOutOfBoundsException e) {
                // what the machine throws is of a class below
                got = e.getClass() == IndexOutOfBoundsException.class ? THROWS_INDEX : Long.MAX_VALUE;
            } catch (IllegalArgumentException e) {
                got = THROWS_ARGUMENT;
            }
            if (got != due && wrong++ < 20) {
                System.out.println("run " + run + ": call " + what + java.util.Arrays.toString(p)
                        + " answered " + got + ", due is " + due);
            }
            return due;
        }

        void callUntilNone(int what, int net) {
            for (int k = 0; k < 2000; k++) {
                long due = what == 9 ? call(what, k) : what == 5 ? call(what, net, k, 0) : call(what, net, k);
                if (what == 5 && due != THROWS_INDEX) {
                    call(what, net, k, 1);
                    call(what, net, k, 2);
                }
                if (due == -1 || due == THROWS_INDEX) {
                    return;
                }
            }
        }

        void compareAll() {
            call(13);
            callUntilNone(9, 0);
            for (int n = 0; n < model.nets.size(); n++) {
                for (int what : new int[] {6, 7, 11, 14}) {
                    call(what, n);
                }
                for (int what : new int[] {5, 10, 12}) {
                    callUntilNone(what, n);
                }
            }
            for (int l = 0; l < model.layers; l++) {
                for (int i = 0; i < model.x; i++) {
                    for (int j = 0; j < model.y; j++) {
                        call(8, l, i, j);
                    }
                }
            }
        }
    }

    private static int wild(Random r, int bound) {
        int[] edges = {-1, bound, Integer.MIN_VALUE, Integer.MAX_VALUE, bound + 1, -2};
        return r.nextInt(30) == 0 ? edges[r.nextInt(edges.length)] : r.nextInt(bound);
    }

    private static int price(Random r) {
        int[] edges = {0, 50, 51, -1};
        return r.nextInt(8) == 0 ? edges[r.nextInt(edges.length)] : r.nextInt(2) * r.nextInt(r.nextBoolean() ? 4 : 51);
    }

    private static void oneRun(int run, Random r, int side, int calls) {
        int layers = 1 + r.nextInt(r.nextInt(2) == 0 ? 2 : 4);
        Pair pair = new Pair(run, wild(r, side) + 1, wild(r, side) + 1, layers, r.nextLong());
        Model m = pair.model;
        int netsWanted = 1 + r.nextInt(13);
        for (int n = 0; n < netsWanted; n++) {
            pair.call(1);
        }
        int bars = r.nextInt(1 + m.histories.length / 4);
        int[] weights = {2, 1, 14, 3, 4, 2, 2, 1, 2, 1, 2, 1, 2, 1, 2};
        for (int b = 0; b < bars; b++) {
            pair.call(0, r.nextInt(m.layers), r.nextInt(m.x), r.nextInt(m.y));
        }
        for (int c = 0; c < calls; c++) {
            int what = 0;
            for (int pick = r.nextInt(40); what < 14 && pick >= weights[what]; what++) {
                pick -= weights[what];
            }
            int n = wild(r, Math.max(1, m.nets.size()));
            int l = wild(r, m.layers);
            int i = wild(r, m.x);
            int j = wild(r, m.y);
            switch (what) {
                case 0: case 8: pair.call(what, l, i, j); break;
                case 1: case 13: pair.call(r.nextInt(4) == 0 ? what : 13); break;
                case 2: pair.call(2, n, l, i, j); break;
                case 3: pair.call(3, l, price(r), price(r), price(r)); break;
                case 4:
                    pair.call(4, r.nextInt(6) == 0 ? wild(r, 21) : 1 + r.nextInt(3));
                    pair.compareAll();
                    break;
                case 5: pair.call(5, n, wild(r, 12), wild(r, 3)); break;
                case 9: pair.call(9, wild(r, 12)); break;
                case 10: case 12: pair.call(what, n, wild(r, 6)); break;
                default: pair.call(what, n); break;
            }
        }
        pair.compareAll();
    }

    public static void main(String[] args) {
        int runs = args.length > 0 ? Integer.parseInt(args[0]) : 5000;
        Random r = new Random(args.length > 1 ? Long.parseLong(args[1]) : 20261118L);
        for (int run = 0; run < runs; run++) {
            oneRun(run, r, run % 25 == 24 ? 16 : 2 + r.nextInt(5), run % 25 == 24 ? 25 : 80);
        }
        System.out.println(wrong == 0 ? "all answers are as due" : wrong + " answers are not as due");
        if (wrong != 0) {
            System.exit(1);
        }
    }
}
