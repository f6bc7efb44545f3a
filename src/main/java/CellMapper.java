import java.util.Arrays;

/**
 * Covers a small clocked circuit with cells of a library at least area, finds its clock period,
 * and retimes it by forward moves of latches.
 *
 * <p>All rows are made with the object and used again, so that no call makes a new one.
 */
public final class CellMapper {
    public static final int BAD = -1;
    public static final int FULL = -2;
    public static final int UNDRIVEN = -3;
    public static final int RING = -4;
    public static final int LIBRARY = -5;
    public static final int UNMAPPED = -6;

    private static final int NONE = -1;
    private static final int MAX_NETS = 40;
    private static final int MAX_INPUTS = 6;
    private static final int MAX_LATCHES = 6;
    private static final int MAX_OUTPUTS = 4;
    private static final int MAX_ARGUMENTS = 3;
    private static final int MAX_NODES = 48;
    private static final int MAX_CELLS = 8;
    private static final int MAX_DIGITS = 7;
    private static final int MAX_PINS = 4;
    private static final int MAX_AREA = 1000;
    private static final int MAX_DELAY = 1000;

    /** A function makes 14 nodes at most (5 for each half, 4 over them): from here they have room. */
    private static final int MAX_NODES_BEFORE_FUNCTION = 32;

    private final Graph graph;
    private final Circuit circuit;
    private final Library library;
    private final Cover cover;
    private final Connections connections;
    private final Retiming retiming;
    private final Machine machine;
    private boolean mapped;

    public CellMapper() {
        graph = new Graph();
        circuit = new Circuit(graph);
        library = new Library();
        cover = new Cover(graph, circuit, library);
        connections = new Connections(graph, circuit, cover);
        retiming = new Retiming(cover, connections);
        machine = new Machine(graph, circuit, cover, connections);
        mapped = false;
    }

    public int input() {
        return afterAdding(circuit.addInput());
    }

    public int latch(int initial) {
        if (initial != 0 && initial != 1) {
            return BAD;
        }
        return afterAdding(circuit.addLatch(initial));
    }

    public int function(int a, int b, int c, int table) {
        int count = circuit.countArguments(a, b, c);
        if (count == 0 || !isTable(count, table)) {
            return BAD;
        }
        return afterAdding(circuit.addFunction(a, b, c, table));
    }

    public boolean drive(int latch, int net) {
        return afterAdding(circuit.setDriver(latch, net)) >= 0;
    }

    public int output(int net) {
        return afterAdding(circuit.addOutput(net));
    }

    public int cell(int pattern, int area, int delay) {
        return afterAdding(library.addCell(pattern, area, delay));
    }

    public int nodes() {
        return graph.size();
    }

    public int nodeOf(int net) {
        return circuit.isNet(net) ? circuit.netNode(net) : BAD;
    }

    public int part(int node, int which) {
        if (!graph.isNode(node)) {
            return NONE;
        }
        if (which == 0) {
            return graph.x(node);
        }
        return which == 1 ? graph.y(node) : NONE;
    }

    public int map() {
        if (circuit.hasUndrivenLatch()) {
            return UNDRIVEN;
        }
        if (circuit.hasLatchRing()) {
            return RING;
        }
        if (!library.coversEveryNode()) {
            return LIBRARY;
        }
        cover.choose();
        connections.connect();
        retiming.shorten();
        machine.arrange();
        machine.restart();
        mapped = true;
        return cover.gateCount();
    }

    public int area() {
        return mapped ? cover.totalArea() : UNMAPPED;
    }

    public int cellAt(int node) {
        if (!mapped) {
            return UNMAPPED;
        }
        return cover.isGate(node) ? cover.gateCell(node) : NONE;
    }

    public int period() {
        return mapped ? retiming.periodBefore() : UNMAPPED;
    }

    public int shortest() {
        return mapped ? retiming.periodAfter() : UNMAPPED;
    }

    public int moves(int node) {
        if (!mapped) {
            return UNMAPPED;
        }
        return cover.isGate(node) ? retiming.movesAt(node) : NONE;
    }

    public long latches(int node, int pin) {
        if (!mapped) {
            return UNMAPPED;
        }
        int connection = connectionOf(node, pin);
        return connection == NONE ? NONE : connections.describe(connection);
    }

    public int clock(int inputs) {
        return circuit.hasUndrivenLatch() ? UNDRIVEN : circuit.runCycle(inputs);
    }

    public int clockRetimed(int inputs) {
        return mapped ? machine.runCycle(inputs) : UNMAPPED;
    }

    public void reset() {
        circuit.restart();
        if (mapped) {
            machine.restart();
        }
    }

    /** Every addition ends the mapping and the clocking so far; a refusal leaves both alone. */
    private int afterAdding(int answer) {
        if (answer >= 0) {
            mapped = false;
            circuit.restart();
        }
        return answer;
    }

    private static boolean isTable(int argumentCount, int table) {
        int ones = (1 << (1 << argumentCount)) - 1;
        return table > 0 && table < ones;
    }

    private int connectionOf(int node, int pin) {
        if (node == NONE) {
            return circuit.isOutput(pin) ? connections.ofOutput(pin) : NONE;
        }
        if (!cover.isGate(node) || pin < 0 || pin >= cover.gatePins(node)) {
            return NONE;
        }
        return connections.ofGate(node) + pin;
    }

    /** The nodes. A node is made after its parts, so rising numbers go from parts to wholes. */
    private static final class Graph {
        private static final int INPUT = 0;
        private static final int LATCH = 1;
        private static final int INV = 2;
        private static final int NAND = 3;

        private final int[] kinds;
        private final int[] xs;
        private final int[] ys;
        private final int[] ordinals;
        private int size;

        Graph() {
            kinds = new int[MAX_NODES];
            xs = new int[MAX_NODES];
            ys = new int[MAX_NODES];
            ordinals = new int[MAX_NODES];
            size = 0;
        }

        int size() {
            return size;
        }

        boolean isNode(int node) {
            return node >= 0 && node < size;
        }

        boolean isInput(int node) {
            return kinds[node] == INPUT;
        }

        boolean isLatch(int node) {
            return kinds[node] == LATCH;
        }

        boolean isInv(int node) {
            return kinds[node] == INV;
        }

        boolean isNand(int node) {
            return kinds[node] == NAND;
        }

        boolean isLogic(int node) {
            return kinds[node] == INV || kinds[node] == NAND;
        }

        int x(int node) {
            return xs[node];
        }

        int y(int node) {
            return ys[node];
        }

        /** Which of the inputs, or of the latches, the node is. */
        int ordinal(int node) {
            return ordinals[node];
        }

        int makeInput(int ordinal) {
            ordinals[size] = ordinal;
            return make(INPUT, NONE, NONE);
        }

        int makeLatch(int ordinal) {
            ordinals[size] = ordinal;
            return make(LATCH, NONE, NONE);
        }

        int inv(int x) {
            return isInv(x) ? xs[x] : findOrMake(INV, x, NONE);
        }

        int nand(int a, int b) {
            return a == b ? inv(a) : findOrMake(NAND, Math.min(a, b), Math.max(a, b));
        }

        private int findOrMake(int kind, int x, int y) {
            for (int node = 0; node < size; node++) {
                if (kinds[node] == kind && xs[node] == x && ys[node] == y) {
                    return node;
                }
            }
            return make(kind, x, y);
        }

        private int make(int kind, int x, int y) {
            kinds[size] = kind;
            xs[size] = x;
            ys[size] = y;
            return size++;
        }
    }

    /** The circuit as it was given: its nets, drives and outputs, and the clocking of it. */
    private static final class Circuit {
        private final Graph graph;
        private final int[] netNodes;
        private final int[] netLatches;
        private final int[] drivers;
        private final int[] outputNets;
        private final int[] argumentNodes;
        private final int[] values;
        private int netCount;
        private int inputCount;
        private int latchCount;
        private int outputCount;
        private int initialBits;
        private int presentBits;

        Circuit(Graph graph) {
            this.graph = graph;
            netNodes = new int[MAX_NETS];
            netLatches = new int[MAX_NETS];
            drivers = new int[MAX_LATCHES];
            outputNets = new int[MAX_OUTPUTS];
            argumentNodes = new int[MAX_ARGUMENTS];
            values = new int[MAX_NODES];
        }

        boolean isNet(int net) {
            return net >= 0 && net < netCount;
        }

        int netNode(int net) {
            return netNodes[net];
        }

        boolean isOutput(int output) {
            return output >= 0 && output < outputCount;
        }

        int outputCount() {
            return outputCount;
        }

        int outputNode(int output) {
            return netNodes[outputNets[output]];
        }

        int latchCount() {
            return latchCount;
        }

        int drivingNode(int latch) {
            return netNodes[drivers[latch]];
        }

        int initialValue(int latch) {
            return (initialBits >> latch) & 1;
        }

        int addInput() {
            if (netCount == MAX_NETS || inputCount == MAX_INPUTS || graph.size() == MAX_NODES) {
                return FULL;
            }
            int node = graph.makeInput(inputCount);
            inputCount++;
            return addNet(node, NONE);
        }

        int addLatch(int initial) {
            if (netCount == MAX_NETS || latchCount == MAX_LATCHES || graph.size() == MAX_NODES) {
                return FULL;
            }
            int latch = latchCount;
            latchCount++;
            drivers[latch] = NONE;
            initialBits |= initial << latch;
            return addNet(graph.makeLatch(latch), latch);
        }

        /** How many nets a function of these has; 0 when they are not as a function asks. */
        int countArguments(int a, int b, int c) {
            if (!isNet(a) || !isNetOrNone(b) || !isNetOrNone(c)) {
                return 0;
            }
            if (b == NONE) {
                return c == NONE ? 1 : 0;
            }
            return c == NONE ? 2 : 3;
        }

        int addFunction(int a, int b, int c, int table) {
            if (netCount == MAX_NETS || graph.size() > MAX_NODES_BEFORE_FUNCTION) {
                return FULL;
            }
            int count = countArguments(a, b, c);
            argumentNodes[0] = netNodes[a];
            argumentNodes[1] = count > 1 ? netNodes[b] : NONE;
            argumentNodes[2] = count > 2 ? netNodes[c] : NONE;
            return addNet(tableNode(graph, argumentNodes, count, table), NONE);
        }

        int setDriver(int latchNet, int net) {
            if (!isNet(latchNet) || netLatches[latchNet] == NONE || !isNet(net)) {
                return BAD;
            }
            drivers[netLatches[latchNet]] = net;
            return net;
        }

        int addOutput(int net) {
            if (!isNet(net)) {
                return BAD;
            }
            if (outputCount == MAX_OUTPUTS) {
                return FULL;
            }
            outputNets[outputCount] = net;
            return outputCount++;
        }

        boolean hasUndrivenLatch() {
            for (int latch = 0; latch < latchCount; latch++) {
                if (drivers[latch] == NONE) {
                    return true;
                }
            }
            return false;
        }

        boolean hasLatchRing() {
            for (int latch = 0; latch < latchCount; latch++) {
                int node = drivingNode(latch);
                for (int step = 0; step < latchCount && graph.isLatch(node); step++) {
                    node = drivingNode(graph.ordinal(node));
                }
                if (graph.isLatch(node)) {
                    return true;
                }
            }
            return false;
        }

        void restart() {
            presentBits = initialBits;
        }

        /** Works on nodes: the node of a net has the value of the net. */
        int runCycle(int inputBits) {
            for (int node = 0; node < graph.size(); node++) {
                values[node] = nodeValue(node, inputBits);
            }
            int nextBits = 0;
            for (int latch = 0; latch < latchCount; latch++) {
                nextBits |= values[drivingNode(latch)] << latch;
            }
            presentBits = nextBits;
            int answer = 0;
            for (int output = 0; output < outputCount; output++) {
                answer |= values[outputNode(output)] << output;
            }
            return answer;
        }

        private int nodeValue(int node, int inputBits) {
            if (graph.isInput(node)) {
                return (inputBits >> graph.ordinal(node)) & 1;
            }
            if (graph.isLatch(node)) {
                return (presentBits >> graph.ordinal(node)) & 1;
            }
            int x = values[graph.x(node)];
            return graph.isInv(node) ? 1 - x : 1 - (x & values[graph.y(node)]);
        }

        /**
         * The node of a table that is not constant, over the first so many of the nodes in the row.
         * With one net both halves are constant, and it goes no deeper.
         */
        private static int tableNode(Graph graph, int[] row, int count, int table) {
            if (count < 1) {
                return NONE;
            }
            int width = 1 << (count - 1);
            int ones = (1 << width) - 1;
            int low = table & ones;
            int high = (table >> width) & ones;
            if (low == high) {
                return tableNode(graph, row, count - 1, low);
            }
            int z = row[count - 1];
            int lowNode = isConstant(low, ones) ? NONE : tableNode(graph, row, count - 1, low);
            int highNode = isConstant(high, ones) ? NONE : tableNode(graph, row, count - 1, high);
            return joinHalves(graph, z, low == 0, high == 0, lowNode, highNode);
        }

        /** The node over both halves; a half without a node is constant, 0 or 1 as its flag says. */
        private static int joinHalves(
                Graph graph, int z, boolean lowZero, boolean highZero, int low, int high) {
            if (low == NONE && high == NONE) {
                return lowZero ? z : graph.inv(z);
            }
            if (low == NONE) {
                return lowZero ? graph.inv(graph.nand(z, high)) : graph.nand(z, graph.inv(high));
            }
            if (high == NONE) {
                int notZ = graph.inv(z);
                return highZero ? graph.inv(graph.nand(notZ, low)) : graph.nand(notZ, graph.inv(low));
            }
            int whenHigh = graph.nand(z, high);
            return graph.nand(whenHigh, graph.nand(graph.inv(z), low));
        }

        private static boolean isConstant(int table, int ones) {
            return table == 0 || table == ones;
        }

        private boolean isNetOrNone(int net) {
            return net == NONE || isNet(net);
        }

        private int addNet(int node, int latch) {
            netNodes[netCount] = node;
            netLatches[netCount] = latch;
            return netCount++;
        }
    }

    /** The cells. A pattern's digits in base 4, the lowest first, spell it from left to right. */
    private static final class Library {
        private static final int PIN = 1;
        private static final int INV = 2;
        private static final int NAND = 3;
        private static final int INV_OF_PIN = 6;
        private static final int NAND_OF_PINS = 23;

        private final int[] patterns;
        private final int[] areas;
        private final int[] delays;
        private final int[] pinCounts;
        private final int[] nandCounts;
        private final int[] tables;
        private int size;

        Library() {
            patterns = new int[MAX_CELLS];
            areas = new int[MAX_CELLS];
            delays = new int[MAX_CELLS];
            pinCounts = new int[MAX_CELLS];
            nandCounts = new int[MAX_CELLS];
            tables = new int[MAX_CELLS];
            size = 0;
        }

        int size() {
            return size;
        }

        int cost(int cell) {
            return areas[cell];
        }

        int delay(int cell) {
            return delays[cell];
        }

        int pins(int cell) {
            return pinCounts[cell];
        }

        int nands(int cell) {
            return nandCounts[cell];
        }

        /** The digit at a place of the cell's pattern; 0 behind its end. */
        int digit(int cell, int place) {
            return digitOf(patterns[cell], place);
        }

        /** The value of the cell with pin k's value at bit k. */
        int value(int cell, int pinBits) {
            return (tables[cell] >> pinBits) & 1;
        }

        boolean coversEveryNode() {
            return hasPattern(INV_OF_PIN) && hasPattern(NAND_OF_PINS);
        }

        int addCell(int pattern, int area, int delay) {
            if (!isPattern(pattern) || area < 1 || area > MAX_AREA || delay < 0 || delay > MAX_DELAY) {
                return BAD;
            }
            if (size == MAX_CELLS) {
                return FULL;
            }
            patterns[size] = pattern;
            areas[size] = area;
            delays[size] = delay;
            pinCounts[size] = countDigits(pattern, PIN);
            nandCounts[size] = countDigits(pattern, NAND);
            tables[size] = tableOf(pattern, pinCounts[size]);
            return size++;
        }

        private boolean hasPattern(int pattern) {
            for (int cell = 0; cell < size; cell++) {
                if (patterns[cell] == pattern) {
                    return true;
                }
            }
            return false;
        }

        private static int digitOf(int pattern, int place) {
            return (pattern >> (2 * place)) & 3;
        }

        /** Counts the patterns that are still owed: one at first, none just at the last digit. */
        private static boolean isPattern(int pattern) {
            if (pattern <= 0 || pattern >= 1 << (2 * MAX_DIGITS) || digitOf(pattern, 0) == PIN) {
                return false;
            }
            int owed = 1;
            for (int place = 0; place < MAX_DIGITS && pattern >> (2 * place) != 0; place++) {
                int digit = digitOf(pattern, place);
                if (owed == 0 || digit == 0) {
                    return false;
                }
                owed += digit - INV;
            }
            return owed == 0;
        }

        private static int countDigits(int pattern, int digit) {
            int count = 0;
            for (int place = 0; place < MAX_DIGITS; place++) {
                if (digitOf(pattern, place) == digit) {
                    count++;
                }
            }
            return count;
        }

        private static int tableOf(int pattern, int pins) {
            int table = 0;
            for (int pinBits = 0; pinBits < 1 << pins; pinBits++) {
                table |= valueOf(pattern, pins, pinBits) << pinBits;
            }
            return table;
        }

        /** Reads from the right, where the parts come before their whole; a stack of bits holds them. */
        private static int valueOf(int pattern, int pins, int pinBits) {
            int stack = 0;
            int pin = pins;
            for (int place = MAX_DIGITS - 1; place >= 0; place--) {
                switch (digitOf(pattern, place)) {
                    case PIN:
                        pin--;
                        stack = (stack << 1) | ((pinBits >> pin) & 1);
                        break;
                    case INV:
                        stack ^= 1;
                        break;
                    case NAND:
                        stack = ((stack >> 2) << 1) | ((stack & 3) == 3 ? 0 : 1);
                        break;
                    default:
                        break;
                }
            }
            return stack & 1;
        }
    }

    /** The choices of least cost, and the gates among them. */
    private static final class Cover {
        private static final int ABOVE_ANY_COST = MAX_NODES * MAX_AREA + 1;

        private final Graph graph;
        private final Circuit circuit;
        private final Library library;
        private final boolean[] needed;
        private final int[] liveUsers;
        private final int[] costs;
        private final int[] choices;
        private final int[] choicePins;
        private final int[] laidPins;
        private final int[] open;
        private final boolean[] gateMarks;
        private final int[] gates;
        private int gateCount;

        Cover(Graph graph, Circuit circuit, Library library) {
            this.graph = graph;
            this.circuit = circuit;
            this.library = library;
            needed = new boolean[MAX_NODES];
            liveUsers = new int[MAX_NODES];
            costs = new int[MAX_NODES];
            choices = new int[MAX_NODES];
            choicePins = new int[MAX_NODES * MAX_PINS];
            laidPins = new int[MAX_PINS];
            open = new int[MAX_DIGITS + 1];
            gateMarks = new boolean[MAX_NODES];
            gates = new int[MAX_NODES];
            gateCount = 0;
        }

        int gateCount() {
            return gateCount;
        }

        /** The node of a gate; gates are counted in the order of their nodes. */
        int gate(int index) {
            return gates[index];
        }

        boolean isGate(int node) {
            return graph.isNode(node) && gateMarks[node];
        }

        int gateCell(int node) {
            return choices[node];
        }

        int gatePins(int node) {
            return library.pins(choices[node]);
        }

        int gateDelay(int node) {
            return library.delay(choices[node]);
        }

        int gateValue(int node, int pinBits) {
            return library.value(choices[node], pinBits);
        }

        int pinNode(int node, int pin) {
            return choicePins[node * MAX_PINS + pin];
        }

        int totalArea() {
            int sum = 0;
            for (int index = 0; index < gateCount; index++) {
                sum += library.cost(choices[gates[index]]);
            }
            return sum;
        }

        void choose() {
            markNeeded();
            countLiveUsers();
            for (int node = 0; node < graph.size(); node++) {
                if (isLive(node) && graph.isLogic(node)) {
                    chooseAt(node);
                }
            }
            markGates();
            listGates();
        }

        private void markNeeded() {
            for (int node = 0; node < MAX_NODES; node++) {
                needed[node] = false;
            }
            for (int output = 0; output < circuit.outputCount(); output++) {
                needed[circuit.outputNode(output)] = true;
            }
            for (int latch = 0; latch < circuit.latchCount(); latch++) {
                needed[circuit.drivingNode(latch)] = true;
            }
        }

        /** Goes from wholes to parts, so that a node's users are all known before its own turn. */
        private void countLiveUsers() {
            Arrays.fill(liveUsers, 0);
            for (int node = graph.size() - 1; node >= 0; node--) {
                if (!isLive(node) || !graph.isLogic(node)) {
                    continue;
                }
                liveUsers[graph.x(node)]++;
                if (graph.isNand(node)) {
                    liveUsers[graph.y(node)]++;
                }
            }
        }

        private boolean isLive(int node) {
            return needed[node] || liveUsers[node] > 0;
        }

        private boolean isRoot(int node) {
            return graph.isLogic(node) && (needed[node] || liveUsers[node] > 1);
        }

        /** Tries cells and ways in the order of preference, so that only a lesser cost displaces one. */
        private void chooseAt(int node) {
            costs[node] = ABOVE_ANY_COST;
            choices[node] = NONE;
            for (int cell = 0; cell < library.size(); cell++) {
                int ways = 1 << library.nands(cell);
                for (int swaps = 0; swaps < ways; swaps++) {
                    if (lay(cell, node, swaps)) {
                        keepIfCheaper(cell, node);
                    }
                }
            }
        }

        private void keepIfCheaper(int cell, int node) {
            int cost = laidCost(cell);
            if (cost >= costs[node]) {
                return;
            }
            costs[node] = cost;
            choices[node] = cell;
            System.arraycopy(laidPins, 0, choicePins, node * MAX_PINS, MAX_PINS);
        }

        private int laidCost(int cell) {
            int cost = library.cost(cell);
            for (int pin = 0; pin < library.pins(cell); pin++) {
                int node = laidPins[pin];
                if (graph.isLogic(node) && !isRoot(node)) {
                    cost += costs[node];
                }
            }
            return cost;
        }

        /**
         * Whether the cell can be laid on the node, with its pins' nodes in laidPins then. The leftmost
         * NAND is swapped by the highest bit of swaps, so that smaller numbers are preferred ways.
         */
        private boolean lay(int cell, int top, int swaps) {
            int depth = 0;
            int pin = 0;
            int nand = library.nands(cell);
            open[depth++] = top;
            for (int place = 0; place < MAX_DIGITS && depth > 0; place++) {
                int digit = library.digit(cell, place);
                int node = open[--depth];
                if (digit == Library.PIN) {
                    laidPins[pin++] = node;
                    continue;
                }
                if (place > 0 && isRoot(node)) {
                    return false;
                }
                if (digit == Library.INV && graph.isInv(node)) {
                    open[depth++] = graph.x(node);
                } else if (digit == Library.NAND && graph.isNand(node)) {
                    nand--;
                    boolean swapped = ((swaps >> nand) & 1) == 1;
                    open[depth++] = swapped ? graph.x(node) : graph.y(node);
                    open[depth++] = swapped ? graph.y(node) : graph.x(node);
                } else {
                    return false;
                }
            }
            return true;
        }

        private void markGates() {
            for (int node = 0; node < MAX_NODES; node++) {
                gateMarks[node] = graph.isNode(node) && isRoot(node);
            }
            for (int node = graph.size() - 1; node >= 0; node--) {
                if (gateMarks[node]) {
                    markPins(node);
                }
            }
        }

        private void markPins(int gate) {
            for (int pin = 0; pin < gatePins(gate); pin++) {
                int node = pinNode(gate, pin);
                if (graph.isLogic(node)) {
                    gateMarks[node] = true;
                }
            }
        }

        private void listGates() {
            gateCount = 0;
            for (int node = 0; node < graph.size(); node++) {
                if (gateMarks[node]) {
                    gates[gateCount++] = node;
                }
            }
        }
    }

    /**
     * The connections with their latches: the row of a connection's latches is a number with the
     * value of the latch next to the source at bit 0.
     */
    private static final class Connections {
        private static final int LIMIT = MAX_NODES * MAX_PINS + MAX_OUTPUTS;
        private static final long COUNTS = 64;

        private final Graph graph;
        private final Circuit circuit;
        private final Cover cover;
        private final int[] sources;
        private final int[] targets;
        private final int[] counts;
        private final long[] rows;
        private final int[] firstOfGates;
        private int firstOfOutputs;
        private int size;

        Connections(Graph graph, Circuit circuit, Cover cover) {
            this.graph = graph;
            this.circuit = circuit;
            this.cover = cover;
            sources = new int[LIMIT];
            targets = new int[LIMIT];
            counts = new int[LIMIT];
            rows = new long[LIMIT];
            firstOfGates = new int[MAX_NODES];
        }

        int size() {
            return size;
        }

        /** The node of the gate or the input. */
        int source(int connection) {
            return sources[connection];
        }

        /** The node of the gate; NONE when the connection leads to an output. */
        int target(int connection) {
            return targets[connection];
        }

        int count(int connection) {
            return counts[connection];
        }

        long row(int connection) {
            return rows[connection];
        }

        int ofGate(int node) {
            return firstOfGates[node];
        }

        int ofOutput(int output) {
            return firstOfOutputs + output;
        }

        long describe(int connection) {
            return counts[connection] + COUNTS * rows[connection];
        }

        /** Lists later gates first: measuring goes against the signals, and then ends in few rounds. */
        void connect() {
            size = 0;
            for (int index = cover.gateCount() - 1; index >= 0; index--) {
                connectGate(cover.gate(index));
            }
            firstOfOutputs = size;
            for (int output = 0; output < circuit.outputCount(); output++) {
                add(circuit.outputNode(output), NONE);
            }
        }

        int takeLast(int connection) {
            int last = counts[connection] - 1;
            int value = (int) (rows[connection] >> last) & 1;
            counts[connection] = last;
            rows[connection] &= (1L << last) - 1;
            return value;
        }

        void putFirst(int connection, int value) {
            counts[connection]++;
            rows[connection] = (rows[connection] << 1) | value;
        }

        private void connectGate(int gate) {
            firstOfGates[gate] = size;
            for (int pin = 0; pin < cover.gatePins(gate); pin++) {
                add(cover.pinNode(gate, pin), gate);
            }
        }

        /** Going back, the latch next to the source comes last and so ends at bit 0. */
        private void add(int from, int target) {
            int node = from;
            int count = 0;
            long row = 0;
            while (count < MAX_LATCHES && graph.isLatch(node)) {
                int latch = graph.ordinal(node);
                row = (row << 1) | circuit.initialValue(latch);
                node = circuit.drivingNode(latch);
                count++;
            }
            sources[size] = node;
            targets[size] = target;
            counts[size] = count;
            rows[size] = row;
            size++;
        }
    }

    /**
     * Finds the fewest moves that lead to the shortest period, and makes them.
     *
     * <p>A gate from which a path without latches is longer than is wanted must move at least once
     * more than it has, whatever the others do; so moves that only grow by need are the fewest. A
     * need is handed on from gate to gate, one in a round: what is not met after as many rounds as
     * there are gates goes round in a circle, and is never met.
     */
    private static final class Retiming {
        private static final int MAX_ROUNDS = MAX_NODES * MAX_NODES;

        private final Cover cover;
        private final Connections connections;
        private final int[] moves;
        private final int[] trial;
        private final int[] tails;
        private int periodBefore;
        private int periodAfter;

        Retiming(Cover cover, Connections connections) {
            this.cover = cover;
            this.connections = connections;
            moves = new int[MAX_NODES];
            trial = new int[MAX_NODES];
            tails = new int[MAX_NODES];
        }

        int periodBefore() {
            return periodBefore;
        }

        int periodAfter() {
            return periodAfter;
        }

        int movesAt(int node) {
            return moves[node];
        }

        void shorten() {
            Arrays.fill(moves, 0);
            Arrays.fill(trial, 0);
            periodBefore = measure();
            periodAfter = periodBefore;
            int floor = slowestGate();
            int unmet = 0;
            for (int round = 0; round < MAX_ROUNDS && unmet < cover.gateCount(); round++) {
                if (periodAfter == floor) {
                    break;
                }
                raise(periodAfter - 1);
                if (hasTakenTooMany()) {
                    break;
                }
                int reached = measure();
                unmet++;
                if (reached < periodAfter) {
                    periodAfter = reached;
                    System.arraycopy(trial, 0, moves, 0, MAX_NODES);
                    unmet = 0;
                }
            }
            makeMoves();
        }

        private int slowestGate() {
            int slowest = 0;
            for (int index = 0; index < cover.gateCount(); index++) {
                slowest = Math.max(slowest, cover.gateDelay(cover.gate(index)));
            }
            return slowest;
        }

        /** The period under the trial, and for each gate the longest delay from its pins on. */
        private int measure() {
            for (int index = 0; index < cover.gateCount(); index++) {
                tails[cover.gate(index)] = cover.gateDelay(cover.gate(index));
            }
            boolean grown = true;
            for (int round = 0; round < MAX_NODES && grown; round++) {
                grown = growTails();
            }
            int longest = 0;
            for (int index = 0; index < cover.gateCount(); index++) {
                longest = Math.max(longest, tails[cover.gate(index)]);
            }
            return longest;
        }

        private boolean growTails() {
            boolean grown = false;
            for (int connection = 0; connection < connections.size(); connection++) {
                int source = connections.source(connection);
                int target = connections.target(connection);
                if (target == NONE || !cover.isGate(source) || trialCount(connection) != 0) {
                    continue;
                }
                int tail = cover.gateDelay(source) + tails[target];
                if (tail > tails[source]) {
                    tails[source] = tail;
                    grown = true;
                }
            }
            return grown;
        }

        /** The trial of an input's node is never raised: it stays 0. */
        private int trialCount(int connection) {
            int target = connections.target(connection);
            int taken = target == NONE ? 0 : trial[target];
            return connections.count(connection) + trial[connections.source(connection)] - taken;
        }

        private void raise(int wanted) {
            for (int index = 0; index < cover.gateCount(); index++) {
                int gate = cover.gate(index);
                if (tails[gate] > wanted) {
                    trial[gate]++;
                }
            }
        }

        /** Between gates a raise keeps every count at 0 or above; inputs have no moves to keep up. */
        private boolean hasTakenTooMany() {
            for (int connection = 0; connection < connections.size(); connection++) {
                if (trialCount(connection) < 0) {
                    return true;
                }
            }
            return false;
        }

        /** Moves in any order give the same latches, so each round makes those that can be made. */
        private void makeMoves() {
            System.arraycopy(moves, 0, trial, 0, MAX_NODES);
            boolean moved = true;
            for (int round = 0; round < MAX_ROUNDS && moved; round++) {
                moved = false;
                for (int index = 0; index < cover.gateCount(); index++) {
                    int gate = cover.gate(index);
                    if (trial[gate] > 0 && canMove(gate)) {
                        trial[gate]--;
                        moveAt(gate);
                        moved = true;
                    }
                }
            }
        }

        private boolean canMove(int gate) {
            int first = connections.ofGate(gate);
            for (int pin = 0; pin < cover.gatePins(gate); pin++) {
                if (connections.count(first + pin) == 0) {
                    return false;
                }
            }
            return true;
        }

        private void moveAt(int gate) {
            int first = connections.ofGate(gate);
            int pinBits = 0;
            for (int pin = 0; pin < cover.gatePins(gate); pin++) {
                pinBits |= connections.takeLast(first + pin) << pin;
            }
            int value = cover.gateValue(gate, pinBits);
            for (int connection = 0; connection < connections.size(); connection++) {
                if (connections.source(connection) == gate) {
                    connections.putFirst(connection, value);
                }
            }
        }
    }

    /** The clocking of the retimed circuit. */
    private static final class Machine {
        private final Graph graph;
        private final Circuit circuit;
        private final Cover cover;
        private final Connections connections;
        private final long[] presentRows;
        private final int[] order;
        private final boolean[] placed;
        private final int[] values;

        Machine(Graph graph, Circuit circuit, Cover cover, Connections connections) {
            this.graph = graph;
            this.circuit = circuit;
            this.cover = cover;
            this.connections = connections;
            presentRows = new long[Connections.LIMIT];
            order = new int[MAX_NODES];
            placed = new boolean[MAX_NODES];
            values = new int[MAX_NODES];
        }

        /** Orders the gates so that each comes behind those that reach it without a latch. */
        void arrange() {
            for (int node = 0; node < MAX_NODES; node++) {
                placed[node] = false;
            }
            int count = 0;
            for (int round = 0; round < MAX_NODES && count < cover.gateCount(); round++) {
                for (int index = 0; index < cover.gateCount(); index++) {
                    int gate = cover.gate(index);
                    if (!placed[gate] && isReady(gate)) {
                        placed[gate] = true;
                        order[count++] = gate;
                    }
                }
            }
        }

        void restart() {
            for (int connection = 0; connection < connections.size(); connection++) {
                presentRows[connection] = connections.row(connection);
            }
        }

        int runCycle(int inputBits) {
            readInputs(inputBits);
            for (int index = 0; index < cover.gateCount(); index++) {
                values[order[index]] = outputValue(order[index]);
            }
            int answer = 0;
            for (int output = 0; output < circuit.outputCount(); output++) {
                answer |= arrivingValue(connections.ofOutput(output)) << output;
            }
            shiftRows();
            return answer;
        }

        private boolean isReady(int gate) {
            int first = connections.ofGate(gate);
            for (int pin = 0; pin < cover.gatePins(gate); pin++) {
                int source = connections.source(first + pin);
                if (connections.count(first + pin) == 0 && cover.isGate(source) && !placed[source]) {
                    return false;
                }
            }
            return true;
        }

        private void readInputs(int inputBits) {
            for (int node = 0; node < graph.size(); node++) {
                if (graph.isInput(node)) {
                    values[node] = (inputBits >> graph.ordinal(node)) & 1;
                }
            }
        }

        private int outputValue(int gate) {
            int first = connections.ofGate(gate);
            int pinBits = 0;
            for (int pin = 0; pin < cover.gatePins(gate); pin++) {
                pinBits |= arrivingValue(first + pin) << pin;
            }
            return cover.gateValue(gate, pinBits);
        }

        private int arrivingValue(int connection) {
            int count = connections.count(connection);
            if (count == 0) {
                return values[connections.source(connection)];
            }
            return (int) (presentRows[connection] >> (count - 1)) & 1;
        }

        private void shiftRows() {
            for (int connection = 0; connection < connections.size(); connection++) {
                long longer = (presentRows[connection] << 1) | values[connections.source(connection)];
                presentRows[connection] = longer & ((1L << connections.count(connection)) - 1);
            }
        }
    }
}
