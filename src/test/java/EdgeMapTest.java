/** The sentences of promises 11 to 17, each with a test of its own at its edges. */
public final class EdgeMapTest {
    private static final Check CHECK = new Check();

    public static void main(String[] args) {
        mapAgain();
        numberOfGates();
        initialValuesBehindMap();
        undriven();
        ring();
        noRing();
        library();
        refusedMapAndMapped();
        mappedUntilAdded();
        mappedBehindRefusals();
        sumOfAreas();
        areaUnmapped();
        cellAtNoGate();
        cellAtUnmappedFirst();
        periodBeforeAnyMove();
        periodUnmapped();
        shortestPeriod();
        shortestUnmapped();
        movesAtGates();
        movesAtNoGate();
        movesUnmappedFirst();
        latchesWithInitialValues();
        latchesCountFromTheSource();
        manyLatches();
        latchesOfOutputs();
        latchesOfNoGate();
        latchesOfNoPin();
        latchesOfNoOutput();
        latchesUnmappedFirst();
        CHECK.finish();
    }

    /** Input 0, latch 1 behind it, AND of both at net 2 with nodes 2 and 3, which is output 0. */
    private static CellMapper small() {
        CellMapper x = Samples.withCells();
        Samples.addRow(x, 1);
        x.function(0, 1, -1, 8);
        x.output(2);
        return x;
    }

    private static CellMapper mapped() {
        CellMapper x = small();
        x.map();
        return x;
    }

    private static void mapAgain() {
        CHECK.sentence("11: Maps the circuit, also when it is mapped already: the number of gates");
        CellMapper x = small();
        for (int k = 0; k < 3; k++) {
            CHECK.due("map()", x.map(), 2);
            CHECK.due("area()", x.area(), 3);
            CHECK.due("period()", x.period(), 2);
            CHECK.due("latches(2, 1)", x.latches(2, 1), 65);
        }
    }

    private static void numberOfGates() {
        CHECK.sentence("11: the number of gates");
        CHECK.due("of nothing", Samples.withCells().map(), 0);
        CellMapper x = Samples.withInputs(3);
        x.cell(Samples.INV, 1, 1);
        x.cell(Samples.NAND, 1, 1);
        x.function(0, 1, 2, Samples.PARITY);
        CHECK.due("without an output", x.map(), 0);
        x.output(3);
        CHECK.due("all nodes but the inputs", x.map(), 12);
        CellMapper y = Samples.withNodes(48);
        y.cell(Samples.INV, 1, 1);
        y.cell(Samples.NAND, 1, 1);
        CHECK.due("48 nodes and no output", y.map(), 0);
        y.output(10);
        CHECK.due("48 nodes, without NAND(0, latch 5)", y.map(), 37);
        y.output(9);
        CHECK.due("48 nodes, ten of them inputs and latches", y.map(), 38);
        CHECK.due("area()", y.area(), 38);
    }

    private static void initialValuesBehindMap() {
        CHECK.sentence("11: the retimed circuit has its latches' initial values then.");
        CellMapper x = mapped();
        CHECK.due("first cycle", x.clockRetimed(1), 1);
        CHECK.due("clock", x.clock(0), 0);
        CHECK.due("second cycle", x.clockRetimed(0), 0);
        CHECK.due("third cycle: the latch is 0", x.clockRetimed(1), 0);
        CHECK.due("map()", x.map(), 2);
        CHECK.due("first cycle again: the latch is 1", x.clockRetimed(1), 1);
        CHECK.due("the circuit as it was given goes on", x.clock(1), 0);
    }

    private static void undriven() {
        CHECK.sentence("11: UNDRIVEN when a latch is not driven");
        for (int missing = 0; missing < 6; missing++) {
            CellMapper x = Samples.withCells();
            for (int latch = 0; latch < 6; latch++) {
                x.latch(0);
            }
            x.input();
            for (int latch = 0; latch < 6; latch++) {
                if (latch != missing) {
                    x.drive(latch, 6);
                }
            }
            CHECK.due("without latch " + missing, x.map(), -3);
            CHECK.due("area() then", x.area(), -6);
            x.drive(missing, 6);
            CHECK.due("with all", x.map(), 0);
        }
    }

    private static CellMapper latchesDrivenBy(int... nets) {
        CellMapper x = Samples.withCells();
        for (int latch = 0; latch < nets.length; latch++) {
            x.latch(0);
        }
        x.input();
        x.function(0, -1, -1, 2);
        x.function(0, -1, -1, 1);
        for (int latch = 0; latch < nets.length; latch++) {
            x.drive(latch, nets[latch]);
        }
        return x;
    }

    private static void ring() {
        CHECK.sentence("11: RING when going back from some latch to what drives it never comes to a node that is no latch");
        CHECK.due("one by itself", latchesDrivenBy(0).map(), -4);
        CHECK.due("one by a net at its node", latchesDrivenBy(2).map(), -4);
        CHECK.due("two", latchesDrivenBy(1, 0).map(), -4);
        CHECK.due("six", latchesDrivenBy(1, 2, 3, 4, 5, 0).map(), -4);
        CHECK.due("six the other way", latchesDrivenBy(5, 0, 1, 2, 3, 4).map(), -4);
        CHECK.due("a row that ends at a ring of one", latchesDrivenBy(1, 2, 3, 4, 5, 5).map(), -4);
        CHECK.due("a row that ends at a ring of two", latchesDrivenBy(1, 2, 3, 4, 5, 4).map(), -4);
        CHECK.due("a ring beside a row from an input", latchesDrivenBy(6, 0, 1, 4, 5, 3).map(), -4);
        CHECK.due("the last one alone", latchesDrivenBy(6, 6, 6, 6, 6, 5).map(), -4);
        CHECK.due("the first one alone", latchesDrivenBy(0, 6, 6, 6, 6, 6).map(), -4);
    }

    private static void noRing() {
        CHECK.sentence("11: never comes to a node that is no latch (and none when it does)");
        CHECK.due("six in a row from an input", latchesDrivenBy(6, 0, 1, 2, 3, 4).map(), 0);
        CHECK.due("six in a row, the last one first", latchesDrivenBy(1, 2, 3, 4, 5, 6).map(), 0);
        CHECK.due("a gate in the ring", latchesDrivenBy(3).map(), 1);
        CHECK.due("a gate in a ring of six", latchesDrivenBy(8, 0, 1, 2, 3, 4).map(), 1);
        CHECK.due("two by one", latchesDrivenBy(2, 0, 3).map(), 0);
    }

    private static int mapWith(int... patterns) {
        CellMapper x = new CellMapper();
        for (int pattern : patterns) {
            x.cell(pattern, 1, 1);
        }
        return x.map();
    }

    private static void library() {
        CHECK.sentence("LIBRARY = -5: No cell has the pattern INV(pin), or none NAND(pin, pin).");
        CHECK.due("no cells, and nothing to cover", mapWith(), -5);
        CHECK.due("INV alone", mapWith(Samples.INV), -5);
        CHECK.due("NAND alone", mapWith(Samples.NAND), -5);
        CHECK.due("INV(INV(pin)) is no INV", mapWith(Samples.pattern("221"), Samples.NAND), -5);
        CHECK.due("NAND(INV(pin), pin) is no NAND", mapWith(Samples.INV, Samples.pattern("3211")), -5);
        CHECK.due("AND and OR", mapWith(Samples.AND, Samples.OR, Samples.INV), -5);
        CHECK.due("both", mapWith(Samples.INV, Samples.NAND), 0);
        CHECK.due("both, the other way round", mapWith(Samples.NAND, Samples.INV), 0);
        int and = Samples.AND;
        CHECK.due("both as the last", mapWith(and, and, and, and, and, and, Samples.NAND, Samples.INV), 0);
        CHECK.due("no NAND among eight", mapWith(and, and, and, and, and, and, and, Samples.INV), -5);
    }

    /** While it is mapped, map() is never refused: what could make it refuse ends the mapping. */
    private static void refusedMapAndMapped() {
        CHECK.sentence("11: A refusal leaves the circuit mapped, if it was.");
        CellMapper x = mapped();
        x.latch(7);
        x.drive(1, 9);
        CHECK.due("still mapped behind refusals of others", x.area(), 3);
        CHECK.due("map() is not refused", x.map(), 2);
        x.drive(1, 1);
        CHECK.due("map() with a ring", x.map(), -4);
        CHECK.due("not mapped before, not mapped now", x.area(), -6);
        x.latch(0);
        CHECK.due("map() with a latch that is not driven", x.map(), -3);
        CHECK.due("nor now", x.area(), -6);
        CellMapper y = new CellMapper();
        CHECK.due("map() without cells", y.map(), -5);
        CHECK.due("nor here", y.area(), -6);
    }

    private static boolean add(CellMapper x, int kind) {
        switch (kind) {
            case 0: return x.input() >= 0;
            case 1: return x.latch(0) >= 0;
            case 2: return x.function(0, -1, -1, 2) >= 0;
            case 3: return x.drive(1, 0);
            case 4: return x.output(2) >= 0;
            default: return x.cell(Samples.INV, 1, 1) >= 0;
        }
    }

    private static void mappedUntilAdded() {
        CHECK.sentence("the circuit is mapped then until a net, a drive, an output or a cell is added");
        for (int kind = 0; kind < 6; kind++) {
            CellMapper x = mapped();
            CHECK.due("mapped", x.area(), 3);
            CHECK.due("addition " + kind, add(x, kind), true);
            CHECK.due("area() behind addition " + kind, x.area(), -6);
            CHECK.due("clockRetimed(0) behind addition " + kind, x.clockRetimed(0), -6);
            CHECK.due("map() behind addition " + kind, x.map(), kind == 1 ? -3 : 2);
        }
    }

    private static boolean addTooMany(CellMapper x, int kind) {
        for (int k = 0; k < 8; k++) {
            add(x, kind);
        }
        x.drive(1, 0);
        for (int latch = 3; kind == 1 && latch < 8; latch++) {
            x.drive(latch, 0);
        }
        CHECK.due("map() with all of kind " + kind, x.map() >= 0, true);
        return add(x, kind);
    }

    private static void mappedBehindRefusals() {
        CHECK.sentence("is added (with an answer that is no refusal).");
        for (int kind : new int[] {0, 1, 4, 5}) {
            CellMapper x = small();
            CHECK.due("one too many of kind " + kind, addTooMany(x, kind), false);
            CHECK.due("area() behind it", x.area(), 3);
            CHECK.due("cellAt(3) behind it", x.cellAt(3), 0);
        }
        CellMapper x = mapped();
        CHECK.due("bad function", x.function(0, -1, -1, 3), -1);
        CHECK.due("bad latch", x.latch(2), -1);
        CHECK.due("bad drive", x.drive(0, 0), false);
        CHECK.due("bad output", x.output(3), -1);
        CHECK.due("bad cell", x.cell(Samples.INV, 0, 0), -1);
        CHECK.due("area() behind them", x.area(), 3);
        Samples.addNets(x, 3, 40);
        CHECK.due("map() with 40 nets", x.map(), 2);
        CHECK.due("one net too many", x.function(0, -1, -1, 2), -2);
        CHECK.due("area() behind it", x.area(), 3);
    }

    private static void sumOfAreas() {
        CHECK.sentence("12: The sum of the areas of the gates");
        CellMapper none = Samples.withCells();
        none.map();
        CHECK.due("of no gates", none.area(), 0);
        CellMapper x = Samples.withNodes(48);
        x.cell(Samples.NAND, 1000, 1000);
        x.cell(Samples.INV, 1000, 1000);
        x.output(10);
        x.output(9);
        CHECK.due("map()", x.map(), 38);
        CHECK.due("the dearest", x.area(), 38 * 1000);
        CellMapper y = small();
        y.cell(Samples.AND, 2, 0);
        y.map();
        CHECK.due("one gate over both nodes", y.area(), 2);
        CHECK.due("INV and NAND", mapped().area(), 1 + 2);
    }

    private static void areaUnmapped() {
        CHECK.sentence("12: UNMAPPED.");
        CellMapper x = small();
        CHECK.due("before map()", x.area(), -6);
        x.map();
        CHECK.due("behind map()", x.area(), 3);
        x.output(0);
        CHECK.due("behind an addition", x.area(), -6);
    }

    private static void cellAtNoGate() {
        CHECK.sentence("13: -1 when there is no such node or no gate at it");
        CellMapper x = small();
        x.cell(Samples.AND, 1, 1);
        x.function(0, -1, -1, 1);
        x.map();
        for (int node : new int[] {-1, -2, 5, 6, 47, 48, 49, Samples.LEAST, Samples.GREATEST}) {
            CHECK.due("no node " + node, x.cellAt(node), -1);
        }
        CHECK.due("an input", x.cellAt(0), -1);
        CHECK.due("a latch", x.cellAt(1), -1);
        CHECK.due("inside of a cell", x.cellAt(2), -1);
        CHECK.due("the gate", x.cellAt(3), 2);
        CHECK.due("a node that is not live", x.cellAt(4), -1);
    }

    private static void cellAtUnmappedFirst() {
        CHECK.sentence("13: UNMAPPED is tested first.");
        CellMapper x = small();
        for (int node : new int[] {-1, 0, 1, 2, 3, 4, 48, Samples.LEAST, Samples.GREATEST}) {
            CHECK.due("cellAt(" + node + ")", x.cellAt(node), -6);
        }
    }

    /** Two latches before INV(q), NAND(q, INV(q)), INV, which have delays 1000 and are the slowest there are. */
    private static CellMapper slow() {
        CellMapper x = Samples.withCells(1000, 1000);
        Samples.addRow(x, 0, 1);
        x.output(x.function(2, 2, -1, 6));
        return x;
    }

    private static void periodBeforeAnyMove() {
        CHECK.sentence("14: The period before any move");
        CellMapper x = slow();
        x.map();
        CHECK.due("three gates in a row", x.period(), 3000);
        CHECK.due("though moves make it shorter", x.shortest(), 1000);
        CellMapper y = Samples.withCells(0, 0);
        y.input();
        y.output(y.function(0, 0, -1, 6));
        y.map();
        CHECK.due("delays of 0", y.period(), 0);
        CellMapper none = Samples.withCells();
        none.map();
        CHECK.due("no gates", none.period(), 0);
        CellMapper z = Samples.withNodes(48);
        z.cell(Samples.NAND, 1, 1000);
        z.cell(Samples.INV, 1, 1000);
        z.output(10);
        z.map();
        CHECK.due("INV, NAND, NAND, NAND, NAND, twice", z.period(), 10000);
    }

    private static void periodUnmapped() {
        CHECK.sentence("14: UNMAPPED.");
        CellMapper x = small();
        CHECK.due("before map()", x.period(), -6);
        x.map();
        CHECK.due("behind map()", x.period(), 2);
        x.drive(1, 0);
        CHECK.due("behind an addition", x.period(), -6);
    }

    private static void shortestPeriod() {
        CHECK.sentence("15: The period of the retimed circuit");
        CellMapper none = Samples.withCells();
        none.map();
        CHECK.due("no gates", none.shortest(), 0);
        for (int count = 0; count <= 4; count++) {
            CellMapper x = Samples.withCells(10, 7);
            Samples.addRow(x, new int[count]);
            x.output(x.function(count, count, -1, 6));
            x.map();
            CHECK.due("period() of INV, NAND, INV", x.period(), 27);
            CHECK.due("shortest() with " + count + " latches", x.shortest(), count == 0 ? 27 : count == 1 ? 17 : 10);
        }
    }

    private static void shortestUnmapped() {
        CHECK.sentence("15: UNMAPPED.");
        CellMapper x = small();
        CHECK.due("before map()", x.shortest(), -6);
        x.map();
        CHECK.due("behind map()", x.shortest(), 2);
        x.input();
        CHECK.due("behind an addition", x.shortest(), -6);
    }

    private static void movesAtGates() {
        CHECK.sentence("16: How many forward moves the retimed circuit has at the gate at a node");
        int[][] due = {{0, 0, 0}, {1, 0, 0}, {2, 1, 0}, {2, 1, 0}, {2, 1, 0}};
        for (int count = 0; count <= 4; count++) {
            CellMapper x = Samples.withCells(10, 7);
            Samples.addRow(x, new int[count]);
            x.output(x.function(count, count, -1, 6));
            x.map();
            for (int gate = 0; gate < 3; gate++) {
                CHECK.due(count + " latches, gate " + gate, x.moves(count + 1 + gate), due[count][gate]);
            }
        }
    }

    private static void movesAtNoGate() {
        CHECK.sentence("16: -1 when there is no such node or no gate at it");
        CellMapper x = small();
        x.cell(Samples.AND, 1, 1);
        x.function(0, -1, -1, 1);
        x.map();
        for (int node : new int[] {-1, -2, 5, 6, 47, 48, 49, Samples.LEAST, Samples.GREATEST}) {
            CHECK.due("no node " + node, x.moves(node), -1);
        }
        CHECK.due("an input", x.moves(0), -1);
        CHECK.due("a latch", x.moves(1), -1);
        CHECK.due("inside of a cell", x.moves(2), -1);
        CHECK.due("the gate", x.moves(3), 0);
        CHECK.due("a node that is not live", x.moves(4), -1);
    }

    private static void movesUnmappedFirst() {
        CHECK.sentence("16: UNMAPPED is tested first.");
        CellMapper x = small();
        for (int node : new int[] {-1, 0, 1, 2, 3, 4, 48, Samples.LEAST, Samples.GREATEST}) {
            CHECK.due("moves(" + node + ")", x.moves(node), -6);
        }
    }

    private static void latchesWithInitialValues() {
        CHECK.sentence("17: in the retimed circuit (with their initial values, however often it was clocked)");
        CellMapper x = slow();
        x.map();
        for (int cycle = 0; cycle < 5; cycle++) {
            CHECK.due("pin of the first INV: both moved on", x.latches(3, 0), 0);
            CHECK.due("NAND from the latch: the first is left", x.latches(4, 0), 1);
            CHECK.due("NAND from INV", x.latches(4, 1), 65);
            CHECK.due("last INV", x.latches(5, 0), 65);
            CHECK.due("output", x.latches(-1, 0), 0);
            x.clockRetimed(cycle & 1);
            x.clock(1);
        }
        x.reset();
        CHECK.due("NAND from INV behind reset()", x.latches(4, 1), 65);
    }

    private static void latchesCountFromTheSource() {
        CHECK.sentence("17: the sum of 2^k over those whose initial value is 1, where k counts them from 0 at the source");
        for (int one = 0; one < 6; one++) {
            int[] initial = new int[6];
            initial[one] = 1;
            CellMapper x = Samples.withCells();
            Samples.addRow(x, initial);
            x.output(6);
            x.output(x.function(6, -1, -1, 1));
            x.map();
            CHECK.due("a 1 at " + one + ", output", x.latches(-1, 0), 6 + 64 * (1 << one));
            CHECK.due("a 1 at " + one + ", pin", x.latches(7, 0), 6 + 64 * (1 << one));
        }
    }

    /** The INV in the ring moves once for each gate but the last of the tail. */
    private static void manyLatches() {
        CHECK.sentence("17: how many, plus 64 times the sum of 2^k");
        CellMapper x = Samples.longTail();
        x.map();
        CHECK.due("moves", x.moves(2), 30);
        long ones = 0;
        for (int k = 1; k < 30; k += 2) {
            ones += 1L << k;
        }
        CHECK.due("thirty latches, every other one is 1", x.latches(-1, 0), 30 + 64 * ones);
    }

    private static void latchesOfOutputs() {
        CHECK.sentence("17: or, when node is -1, of the output with the number pin");
        CellMapper x = Samples.withCells();
        Samples.addRow(x, 1, 1, 0);
        for (int net = 3; net >= 0; net--) {
            x.output(net);
        }
        x.map();
        CHECK.due("output 0", x.latches(-1, 0), 3 + 64 * 3);
        CHECK.due("output 1", x.latches(-1, 1), 2 + 64 * 3);
        CHECK.due("output 2", x.latches(-1, 2), 1 + 64);
        CHECK.due("output 3", x.latches(-1, 3), 0);
    }

    private static void latchesOfNoGate() {
        CHECK.sentence("17: -1 when there is no such gate");
        CellMapper x = small();
        x.cell(Samples.AND, 1, 1);
        x.function(0, -1, -1, 1);
        x.map();
        for (int node : new int[] {-2, -3, 5, 6, 47, 48, 49, Samples.LEAST, Samples.GREATEST}) {
            CHECK.due("no node " + node, x.latches(node, 0), -1);
        }
        CHECK.due("an input", x.latches(0, 0), -1);
        CHECK.due("a latch", x.latches(1, 0), -1);
        CHECK.due("inside of a cell", x.latches(2, 0), -1);
        CHECK.due("a node that is not live", x.latches(4, 0), -1);
        CHECK.due("the gate", x.latches(3, 0), 0);
    }

    private static void latchesOfNoPin() {
        CHECK.sentence("17: -1 when there is no such .. pin");
        String[] patterns = {"21", "311", "33111", "3311311"};
        for (int pins = 1; pins <= 4; pins++) {
            CellMapper x = Samples.withCells();
            x.cell(Samples.pattern(patterns[pins - 1]), 1, 1);
            Samples.addRow(x, 0, 0, 0);
            x.function(0, 1, -1, 7);
            x.function(2, 3, -1, 7);
            int net = pins == 1 ? x.function(0, -1, -1, 1) : pins == 2 ? 4 : x.function(4, pins == 3 ? 2 : 5, -1, 7);
            x.output(net);
            CHECK.due("one gate of " + pins, x.map(), 1);
            int node = x.nodeOf(net);
            CHECK.due("the last pin of " + pins, x.latches(node, pins - 1) >= 0, true);
            for (int pin : new int[] {-1, -2, pins, pins + 1, 64, Samples.LEAST, Samples.GREATEST}) {
                CHECK.due("pin " + pin + " of " + pins, x.latches(node, pin), -1);
            }
        }
    }

    private static void latchesOfNoOutput() {
        CHECK.sentence("17: -1 when there is no such .. output");
        for (int outputs = 0; outputs <= 4; outputs++) {
            CellMapper x = Samples.withCells();
            Samples.addRow(x, 1);
            for (int k = 0; k < outputs; k++) {
                x.output(1);
            }
            x.map();
            for (int k = 0; k < outputs; k++) {
                CHECK.due("output " + k + " of " + outputs, x.latches(-1, k), 65);
            }
            for (int pin : new int[] {-1, -2, outputs, outputs + 1, 4, 64, Samples.LEAST, Samples.GREATEST}) {
                CHECK.due("output " + pin + " of " + outputs, x.latches(-1, pin), -1);
            }
        }
    }

    private static void latchesUnmappedFirst() {
        CHECK.sentence("17: UNMAPPED is tested first.");
        CellMapper x = small();
        for (int node : new int[] {-2, -1, 0, 1, 2, 3, 4, 48, Samples.LEAST, Samples.GREATEST}) {
            for (int pin : new int[] {-1, 0, 1, 2, 4, Samples.LEAST, Samples.GREATEST}) {
                CHECK.due("latches(" + node + ", " + pin + ")", x.latches(node, pin), -6);
            }
        }
    }
}
