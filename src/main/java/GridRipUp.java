import java.util.Arrays;

/** Leads nets over a grid of layers by ways of least cost, and rips up what is in the way. */
public final class GridRipUp {

    public static final int NONE = -1;

    private static final int MOST_NETS = 12;
    private static final int MOST_ROUNDS = 20;
    private static final int MOST_PRICE = 50;
    private static final int BLOCK_SIDE = 4;

    private static final long DRAW_FACTOR = 6364136223846793005L;
    private static final long DRAW_ADDEND = 1442695040888963407L;
    private static final int DRAW_SHIFT = 33;

    private final Grid grid;
    private final Prices prices;
    private final Search search;
    private final Tree tree;
    private final Net[] nets;
    private final int[] turns;
    private int netCount;
    private int roundCount;
    private long drawState;

    public GridRipUp(int x, int y, int layers, long seed) {
        grid = new Grid(x, y, layers);
        prices = new Prices();
        search = new Search(grid, prices);
        tree = new Tree(grid.cells);
        nets = new Net[MOST_NETS];
        for (int n = 0; n < MOST_NETS; n++) {
            nets[n] = new Net();
        }
        turns = new int[MOST_NETS];
        netCount = 0;
        roundCount = 0;
        drawState = seed;
    }

    public boolean bar(int layer, int i, int j) throws IndexOutOfBoundsException {
        int cell = cellAt(layer, i, j);
        if (grid.barred[cell] || grid.holder[cell] != NONE) {
            return false;
        }
        grid.barred[cell] = true;
        return true;
    }

    public int net() {
        if (netCount >= MOST_NETS) {
            return NONE;
        }
        netCount++;
        return netCount - 1;
    }

    public boolean pin(int net, int layer, int i, int j) throws IndexOutOfBoundsException {
        Net owner = netAt(net);
        int cell = cellAt(layer, i, j);
        if (grid.barred[cell] || grid.pinned[cell] || grid.heldByOther(cell, net) || !owner.hasRoom()) {
            return false;
        }
        layOpen(net);
        owner.addPin(cell);
        grid.pinned[cell] = true;
        grid.holder[cell] = net;
        return true;
    }

    public boolean cost(int layer, int across, int via, int near)
            throws IndexOutOfBoundsException, IllegalArgumentException {
        if (layer < 0 || layer >= grid.layers) {
            throw new IndexOutOfBoundsException("no such layer");
        }
        if (!isPrice(across) || !isPrice(via) || !isPrice(near)) {
            throw new IllegalArgumentException("a cost is not 0 .. 50");
        }
        return prices.change(layer, across, via, near);
    }

    public int run(int rounds) throws IllegalArgumentException {
        if (rounds < 1 || rounds > MOST_ROUNDS) {
            throw new IllegalArgumentException("rounds are not 1 .. 20");
        }
        for (int r = 0; r < rounds && openNets() != 0; r++) {
            playRound();
        }
        return Integer.bitCount(openNets());
    }

    public int piece(int net, int k, int what) throws IndexOutOfBoundsException {
        Net owner = netAt(net);
        int cell = owner.led ? grid.heldAtTurn(net, k) : NONE;
        if (cell == NONE || what < 0 || what > 2) {
            throw new IndexOutOfBoundsException("no such piece");
        }
        if (what == 0) {
            return grid.layerOf(cell);
        }
        return what == 1 ? grid.columnOf(cell) : grid.rowOf(cell);
    }

    public long costOf(int net) throws IndexOutOfBoundsException {
        Net owner = netAt(net);
        return owner.led ? owner.price : NONE;
    }

    public int ripped(int net) throws IndexOutOfBoundsException {
        return netAt(net).rips;
    }

    public long history(int layer, int i, int j) throws IndexOutOfBoundsException {
        return grid.scars[cellAt(layer, i, j)];
    }

    public int open(int k) {
        return memberAt(openNets(), k);
    }

    public int blocking(int net, int k) throws IndexOutOfBoundsException {
        return memberAt(netAt(net).blockers, k);
    }

    public boolean joined(int net) throws IndexOutOfBoundsException {
        return netAt(net).led;
    }

    public int corridor(int net, int k) throws IndexOutOfBoundsException {
        netAt(net);
        int blocksInRow = (grid.width + BLOCK_SIDE - 1) / BLOCK_SIDE;
        int blocks = 0;
        for (int cell = 0; cell < grid.cells; cell++) {
            if (grid.holder[cell] == net) {
                blocks |= 1 << (grid.rowOf(cell) / BLOCK_SIDE * blocksInRow + grid.columnOf(cell) / BLOCK_SIDE);
            }
        }
        return memberAt(blocks, k);
    }

    public int round() {
        return roundCount;
    }

    public boolean band(int net) throws IndexOutOfBoundsException {
        if (!netAt(net).led) {
            return false;
        }
        for (int cell = 0; cell < grid.cells; cell++) {
            if (grid.holder[cell] == net && !hasFreeBends(cell, net)) {
                return false;
            }
        }
        return true;
    }

    private Net netAt(int number) {
        if (number < 0 || number >= netCount) {
            throw new IndexOutOfBoundsException("no such net");
        }
        return nets[number];
    }

    private int cellAt(int layer, int i, int j) {
        if (!grid.has(layer, i, j)) {
            throw new IndexOutOfBoundsException("no such cell");
        }
        return grid.numberOf(layer, i, j);
    }

    private static boolean isPrice(int price) {
        return price >= 0 && price <= MOST_PRICE;
    }

    /** The k-th number, rising, whose bit stands in the set; NONE when there are not so many. */
    private static int memberAt(int set, int k) {
        int left = k;
        for (int number = 0; number < 32 && left >= 0; number++) {
            if ((set >>> number & 1) != 0) {
                if (left == 0) {
                    return number;
                }
                left--;
            }
        }
        return NONE;
    }

    /** The set of the nets that are open, a bit for each. */
    private int openNets() {
        int set = 0;
        for (int n = 0; n < netCount; n++) {
            if (nets[n].isOpen()) {
                set |= 1 << n;
            }
        }
        return set;
    }

    private void layOpen(int number) {
        nets[number].led = false;
        grid.keepPinsAlone(number);
    }

    private void playRound() {
        int count = putInOrder(openNets());
        for (int k = 0; k < count; k++) {
            if (nets[turns[k]].isOpen()) {
                lead(turns[k]);
            }
        }
        roundCount++;
    }

    /** Puts the nets of a set into turns, in a drawn order; answers how many they are. */
    private int putInOrder(int set) {
        int count = 0;
        for (int n = 0; n < netCount; n++) {
            if ((set >>> n & 1) != 0) {
                turns[count] = n;
                count++;
            }
        }
        for (int k = count - 1; k >= 1; k--) {
            int other = (int) (draw() % (k + 1));
            int kept = turns[k];
            turns[k] = turns[other];
            turns[other] = kept;
        }
        return count;
    }

    private long draw() {
        drawState = drawState * DRAW_FACTOR + DRAW_ADDEND;
        return drawState >>> DRAW_SHIFT;
    }

    private void lead(int number) {
        Net net = nets[number];
        net.price = 0;
        net.blockers = 0;
        tree.startAt(net.pins[0]);
        for (int inTree = 1; inTree < net.pinCount; inTree++) {
            if (!search.reachesPin(number, tree, false)) {
                // the ripping search writes over the distances that tell the blockers
                int blockers = search.holdersAround(number);
                if (!search.reachesPin(number, tree, true)) {
                    net.blockers = blockers;
                    return;
                }
            }
            int pin = search.nearestPin(net);
            if (pin != NONE) {
                net.price += search.distance[pin];
                ripUp(joinFrom(pin, number));
            }
        }
        net.led = true;
        tree.holdFor(number, grid);
    }

    /** Takes the way back from a pin into the tree; answers the set of the nets that are in the way. */
    private int joinFrom(int pin, int number) {
        int inTheWay = 0;
        int at = pin;
        for (int n = 0; n < grid.cells && at != NONE && search.distance[at] > 0; n++) {
            if (grid.heldByOther(at, number)) {
                inTheWay |= 1 << grid.holder[at];
                grid.scars[at]++;
            }
            tree.add(at);
            at = search.stepBack(at);
        }
        return inTheWay;
    }

    private void ripUp(int set) {
        for (int n = 0; n < netCount; n++) {
            if ((set >>> n & 1) != 0) {
                layOpen(n);
                nets[n].rips++;
            }
        }
    }

    /** Whether the net's bends at one of its cells could be cut short: no corner inside them is taken. */
    private boolean hasFreeBends(int cell, int net) {
        for (int alongI = Grid.LEFT; alongI <= Grid.RIGHT; alongI++) {
            int sideways = grid.neighbour(cell, alongI);
            if (sideways == NONE || grid.holder[sideways] != net) {
                continue;
            }
            if (!isFreeBend(cell, sideways, Grid.BACK, net) || !isFreeBend(cell, sideways, Grid.FORTH, net)) {
                return false;
            }
        }
        return true;
    }

    private boolean isFreeBend(int cell, int sideways, int alongJ, int net) {
        int onward = grid.neighbour(cell, alongJ);
        int corner = grid.neighbour(sideways, alongJ);
        if (onward == NONE || corner == NONE || grid.holder[onward] != net) {
            return true;
        }
        return !grid.barred[corner] && !grid.heldByOther(corner, net);
    }

    /** A net: its pins, and how its leading went. */
    private static final class Net {
        private static final int MOST_PINS = 5;

        final int[] pins = new int[MOST_PINS];
        int pinCount;
        boolean led;
        long price;
        int blockers;
        int rips;

        boolean isOpen() {
            return pinCount > 0 && !led;
        }

        boolean hasRoom() {
            return pinCount < MOST_PINS;
        }

        void addPin(int cell) {
            if (hasRoom()) {
                pins[pinCount] = cell;
                pinCount++;
            }
        }
    }

    /** The cells: where they lie, which are barred, who holds them, and what ripping left on them. */
    private static final class Grid {
        private static final int MOST_SIDE = 16;
        private static final int MOST_LAYERS = 4;

        // in this order the neighbours of a cell have rising numbers
        static final int DOWN = 0;
        static final int BACK = 1;
        static final int LEFT = 2;
        static final int RIGHT = 3;
        static final int FORTH = 4;
        static final int UP = 5;

        final int width;
        final int height;
        final int layers;
        final int area;
        final int cells;
        final boolean[] barred;
        final boolean[] pinned;
        final int[] holder;
        final int[] turn;
        final long[] scars;

        Grid(int x, int y, int layerCount) {
            width = Math.max(1, Math.min(x, MOST_SIDE));
            height = Math.max(1, Math.min(y, MOST_SIDE));
            layers = Math.max(1, Math.min(layerCount, MOST_LAYERS));
            area = width * height;
            cells = area * layers;
            barred = new boolean[cells];
            pinned = new boolean[cells];
            holder = new int[cells];
            turn = new int[cells];
            scars = new long[cells];
            Arrays.fill(holder, NONE);
        }

        boolean has(int layer, int i, int j) {
            return layer >= 0 && layer < layers && i >= 0 && i < width && j >= 0 && j < height;
        }

        int numberOf(int layer, int i, int j) {
            return (layer * height + j) * width + i;
        }

        int layerOf(int cell) {
            return cell / area;
        }

        int rowOf(int cell) {
            return cell / width % height;
        }

        int columnOf(int cell) {
            return cell % width;
        }

        int neighbour(int cell, int direction) {
            switch (direction) {
                case DOWN:
                    return cell >= area ? cell - area : NONE;
                case BACK:
                    return cell % area >= width ? cell - width : NONE;
                case LEFT:
                    return cell % width > 0 ? cell - 1 : NONE;
                case RIGHT:
                    return cell % width < width - 1 ? cell + 1 : NONE;
                case FORTH:
                    return cell % area < area - width ? cell + width : NONE;
                case UP:
                    return cell < cells - area ? cell + area : NONE;
                default:
                    return NONE;
            }
        }

        boolean heldByOther(int cell, int net) {
            return holder[cell] != NONE && holder[cell] != net;
        }

        int heldAtTurn(int net, int k) {
            for (int cell = 0; cell < cells; cell++) {
                if (holder[cell] == net && turn[cell] == k) {
                    return cell;
                }
            }
            return NONE;
        }

        void keepPinsAlone(int net) {
            for (int cell = 0; cell < cells; cell++) {
                if (holder[cell] == net && !pinned[cell]) {
                    holder[cell] = NONE;
                }
            }
        }
    }

    /** The costs of the layers. */
    private static final class Prices {
        private static final int STEP = 2;

        final int[] across = new int[Grid.MOST_LAYERS];
        final int[] via = new int[Grid.MOST_LAYERS];
        final int[] near = new int[Grid.MOST_LAYERS];

        boolean change(int layer, int newAcross, int newVia, int newNear) {
            boolean other = across[layer] != newAcross || via[layer] != newVia || near[layer] != newNear;
            across[layer] = newAcross;
            via[layer] = newVia;
            near[layer] = newNear;
            return other;
        }

        /** What a step to a neighbour costs, without what the cell costs that it comes to; the same both ways. */
        int ofMove(int layer, int direction) {
            if (direction == Grid.UP) {
                return STEP + via[layer];
            }
            if (direction == Grid.DOWN) {
                return layer > 0 ? STEP + via[layer - 1] : STEP;
            }
            boolean alongI = direction == Grid.LEFT || direction == Grid.RIGHT;
            boolean prefersI = layer % 2 == 0;
            return alongI == prefersI ? STEP : STEP + across[layer];
        }
    }

    /** The cells of the net that is being led, in the order in which they came. */
    private static final class Tree {
        final int[] members;
        int size;

        Tree(int room) {
            members = new int[room];
        }

        void startAt(int cell) {
            size = 0;
            add(cell);
        }

        void add(int cell) {
            if (size < members.length) {
                members[size] = cell;
                size++;
            }
        }

        void holdFor(int net, Grid grid) {
            for (int k = 0; k < size; k++) {
                grid.holder[members[k]] = net;
                grid.turn[members[k]] = k;
            }
        }
    }

    /** The distances from a tree, and the ways back to it. */
    private static final class Search {
        private static final long UNREACHED = -1;
        private static final long CLOSED = -1;
        private static final long RIPPING_PRICE = 100;

        final Grid grid;
        final Prices prices;
        final long[] distance;
        final long[] toll;
        final Frontier frontier;

        Search(Grid searched, Prices asked) {
            grid = searched;
            prices = asked;
            distance = new long[searched.cells];
            toll = new long[searched.cells];
            frontier = new Frontier(distance);
        }

        /**
         * Whether a pin outside the tree can be reached. It ends at the nearest one: each distance up to
         * that one's is right by then, and no farther one is asked for.
         */
        boolean reachesPin(int net, Tree tree, boolean ripping) {
            setTolls(net, ripping);
            startFrom(tree);
            for (int n = 0; n < grid.cells && frontier.size > 0; n++) {
                int cell = frontier.takeNearest();
                // an open net holds nothing but its pins
                if (grid.holder[cell] == net && distance[cell] > 0) {
                    return true;
                }
                spreadFrom(cell);
            }
            return false;
        }

        private void setTolls(int net, boolean ripping) {
            for (int cell = 0; cell < grid.cells; cell++) {
                boolean foreign = grid.heldByOther(cell, net);
                boolean closed = grid.barred[cell] || foreign && (!ripping || grid.pinned[cell]);
                toll[cell] = closed ? CLOSED : grid.scars[cell] + (foreign ? RIPPING_PRICE : 0);
            }
            for (int cell = 0; cell < grid.cells; cell++) {
                if (grid.heldByOther(cell, net)) {
                    raiseTollsBeside(cell);
                }
            }
        }

        private void raiseTollsBeside(int held) {
            int near = prices.near[grid.layerOf(held)];
            for (int direction = Grid.BACK; direction <= Grid.FORTH && near > 0; direction++) {
                int beside = grid.neighbour(held, direction);
                if (beside != NONE && toll[beside] != CLOSED) {
                    toll[beside] += near;
                }
            }
        }

        private void startFrom(Tree tree) {
            Arrays.fill(distance, UNREACHED);
            frontier.clear();
            for (int k = 0; k < tree.size; k++) {
                distance[tree.members[k]] = 0;
                frontier.put(tree.members[k]);
            }
        }

        private void spreadFrom(int cell) {
            int layer = grid.layerOf(cell);
            for (int direction = Grid.DOWN; direction <= Grid.UP; direction++) {
                int next = grid.neighbour(cell, direction);
                if (next == NONE || toll[next] == CLOSED) {
                    continue;
                }
                long reached = distance[cell] + prices.ofMove(layer, direction) + toll[next];
                if (distance[next] == UNREACHED || reached < distance[next]) {
                    distance[next] = reached;
                    frontier.put(next);
                }
            }
        }

        int nearestPin(Net net) {
            int nearest = NONE;
            for (int p = 0; p < net.pinCount; p++) {
                int pin = net.pins[p];
                // the tree's own cells have the distance 0
                if (distance[pin] > 0 && (nearest == NONE || distance[pin] < distance[nearest])) {
                    nearest = pin;
                }
            }
            return nearest;
        }

        /** The neighbour of the lowest number from which a cell has its distance. */
        int stepBack(int cell) {
            int layer = grid.layerOf(cell);
            for (int direction = Grid.DOWN; direction <= Grid.UP; direction++) {
                int before = grid.neighbour(cell, direction);
                if (before == NONE || distance[before] == UNREACHED) {
                    continue;
                }
                if (distance[before] + prices.ofMove(layer, direction) + toll[cell] == distance[cell]) {
                    return before;
                }
            }
            return NONE;
        }

        /** The set of the other nets that hold a neighbour of a cell with a distance. */
        int holdersAround(int net) {
            int set = 0;
            for (int cell = 0; cell < grid.cells; cell++) {
                for (int direction = Grid.DOWN; direction <= Grid.UP && distance[cell] != UNREACHED; direction++) {
                    int other = grid.neighbour(cell, direction);
                    if (other != NONE && grid.heldByOther(other, net)) {
                        set |= 1 << grid.holder[other];
                    }
                }
            }
            return set;
        }
    }

    /** The cells that a search has reached and not gone on from, as a heap with the nearest on top. */
    private static final class Frontier {
        private static final int MOST_LEVELS = 32;

        final long[] distance;
        final int[] heap;
        final int[] seat;
        int size;

        Frontier(long[] distances) {
            distance = distances;
            heap = new int[distances.length];
            seat = new int[distances.length];
        }

        void clear() {
            size = 0;
            Arrays.fill(seat, NONE);
        }

        /** Takes a cell in, or lets it rise when its distance has become less. */
        void put(int cell) {
            int at = seat[cell];
            if (at == NONE) {
                if (size >= heap.length) {
                    return;
                }
                at = size;
                size++;
            }
            for (int level = 0; level < MOST_LEVELS && at > 0; level++) {
                int above = (at - 1) / 2;
                if (distance[heap[above]] <= distance[cell]) {
                    break;
                }
                seatAt(at, heap[above]);
                at = above;
            }
            seatAt(at, cell);
        }

        /** The caller looks first whether there is one. */
        int takeNearest() {
            int nearest = heap[0];
            seat[nearest] = NONE;
            if (size > 0) {
                size--;
            }
            if (size > 0) {
                sinkFromTop(heap[size]);
            }
            return nearest;
        }

        private void sinkFromTop(int cell) {
            int at = 0;
            for (int level = 0; level < MOST_LEVELS && 2 * at + 1 < size; level++) {
                int below = 2 * at + 1;
                if (below + 1 < size && distance[heap[below + 1]] < distance[heap[below]]) {
                    below++;
                }
                if (distance[cell] <= distance[heap[below]]) {
                    break;
                }
                seatAt(at, heap[below]);
                at = below;
            }
            seatAt(at, cell);
        }

        private void seatAt(int at, int cell) {
            heap[at] = cell;
            seat[cell] = at;
        }
    }
}
