/** The sentences of promises 1 to 10, each with a test of its own at its edges. */
public final class EdgeBuildTest {
    private static final Check CHECK = new Check();

    public static void main(String[] args) {
        noNets();
        noCells();
        noOutputs();
        notMapped();
        inputFullOfNets();
        inputFullOfInputs();
        inputFullOfNodes();
        latchIsNotDriven();
        latchBad();
        latchFullOfNets();
        latchFullOfLatches();
        latchFullOfNodes();
        functionNetsNeedNotDiffer();
        functionOfNoNet();
        functionOfNoSecondOrThirdNet();
        functionWithoutSecondNet();
        functionTableRange();
        functionTableConstant();
        functionFullOfNets();
        functionFullOfNodes();
        driveInPlaceOfAnother();
        driveOfNoLatch();
        driveByNoNet();
        outputNumbers();
        outputOfNoNet();
        outputFull();
        cellPattern();
        cellArea();
        cellDelay();
        cellFull();
        numberOfNodes();
        nodeOfNoNet();
        partsOfNodes();
        partsThatAreNone();
        CHECK.finish();
    }

    private static void noNets() {
        CHECK.sentence("1: No nets");
        CellMapper x = new CellMapper();
        CHECK.due("nodes()", x.nodes(), 0);
        CHECK.due("nodeOf(0)", x.nodeOf(0), -1);
        CHECK.due("part(0, 0)", x.part(0, 0), -1);
        CHECK.due("function of net 0", x.function(0, -1, -1, 1), -1);
        CHECK.due("drive(0, 0)", x.drive(0, 0), false);
        CHECK.due("output(0)", x.output(0), -1);
        CHECK.due("the first net", x.latch(0), 0);
        CHECK.due("the next one", x.input(), 1);
        CHECK.due("another object", new CellMapper().input(), 0);
    }

    private static void noCells() {
        CHECK.sentence("1: no cells");
        CellMapper x = new CellMapper();
        CHECK.due("map()", x.map(), -5);
        CHECK.due("the first cell", x.cell(Samples.INV, 1, 1), 0);
        CHECK.due("the next one", x.cell(Samples.NAND, 1, 1), 1);
        CHECK.due("map() then", x.map(), 0);
        CHECK.due("another object", new CellMapper().map(), -5);
    }

    private static void noOutputs() {
        CHECK.sentence("1: no outputs");
        CellMapper x = Samples.withCells();
        CHECK.due("clock(-1)", x.clock(-1), 0);
        x.map();
        CHECK.due("clockRetimed(-1)", x.clockRetimed(-1), 0);
        CHECK.due("latches(-1, 0)", x.latches(-1, 0), -1);
        x.input();
        CHECK.due("the first output", x.output(0), 0);
    }

    private static void notMapped() {
        CHECK.sentence("1: not mapped.");
        CellMapper x = new CellMapper();
        CHECK.due("area()", x.area(), -6);
        CHECK.due("cellAt(0)", x.cellAt(0), -6);
        CHECK.due("period()", x.period(), -6);
        CHECK.due("shortest()", x.shortest(), -6);
        CHECK.due("moves(0)", x.moves(0), -6);
        CHECK.due("latches(0, 0)", x.latches(0, 0), -6);
        CHECK.due("clockRetimed(0)", x.clockRetimed(0), -6);
        x.reset();
        CHECK.due("area() behind reset()", x.area(), -6);
    }

    private static void inputFullOfNets() {
        CHECK.sentence("2: FULL when there are 40 nets");
        CellMapper x = Samples.withInputs(1);
        Samples.addNets(x, 1, 39);
        CHECK.due("with 39", x.input(), 39);
        CHECK.due("with 40", x.input(), -2);
    }

    private static void inputFullOfInputs() {
        CHECK.sentence("2: FULL when there are .. 6 inputs");
        CellMapper x = Samples.withInputs(5);
        CHECK.due("with 5", x.input(), 5);
        CHECK.due("with 6", x.input(), -2);
        CHECK.due("with 6, again", x.input(), -2);
    }

    private static void inputFullOfNodes() {
        CHECK.sentence("2: FULL when there are .. 48 nodes");
        CellMapper x = Samples.withNodes(47);
        CHECK.due("nodes()", x.nodes(), 47);
        CHECK.due("with 47", x.input() >= 0, true);
        CHECK.due("with 48", x.input(), -2);
        CHECK.due("with 48 made otherwise", Samples.withNodes(48).input(), -2);
    }

    private static void latchIsNotDriven() {
        CHECK.sentence("3: Adds a latch that is not driven: its number as a net.");
        CellMapper x = Samples.withCells();
        CHECK.due("the first net", x.latch(0), 0);
        CHECK.due("clock(0)", x.clock(0), -3);
        CHECK.due("map()", x.map(), -3);
        x.drive(0, x.input());
        CHECK.due("driven", x.map(), 0);
        CHECK.due("a latch behind others", x.latch(1), 2);
        CHECK.due("map() again", x.map(), -3);
    }

    private static void latchBad() {
        CHECK.sentence("3: BAD when initial is not 0 or 1");
        CellMapper x = new CellMapper();
        int[] wrong = {-1, 2, 3, -2, 256, 257, 65537, Samples.LEAST, Samples.LEAST + 1, Samples.GREATEST};
        for (int initial : wrong) {
            CHECK.due("latch(" + initial + ")", x.latch(initial), -1);
        }
        CHECK.due("latch(0)", x.latch(0), 0);
        CHECK.due("latch(1)", x.latch(1), 1);
    }

    private static void latchFullOfNets() {
        CHECK.sentence("3: FULL when there are 40 nets");
        CellMapper x = Samples.withInputs(1);
        Samples.addNets(x, 1, 39);
        CHECK.due("with 39", x.latch(1), 39);
        CHECK.due("with 40", x.latch(1), -2);
    }

    private static void latchFullOfLatches() {
        CHECK.sentence("3: FULL when there are .. 6 latches");
        CellMapper x = new CellMapper();
        for (int k = 0; k < 6; k++) {
            CHECK.due("with " + k, x.latch(1), k);
        }
        CHECK.due("with 6", x.latch(1), -2);
        CHECK.due("with 6, again", x.latch(0), -2);
    }

    private static void latchFullOfNodes() {
        CHECK.sentence("3: FULL when there are .. 48 nodes");
        CellMapper x = Samples.withNodes(47);
        CHECK.due("with 47", x.latch(0) >= 0, true);
        CHECK.due("nodes()", x.nodes(), 48);
        CHECK.due("with 48", x.latch(0), -2);
        CHECK.due("with 48 made otherwise", Samples.withNodes(48).latch(1), -2);
    }

    private static void functionNetsNeedNotDiffer() {
        CHECK.sentence("4: or of a, b and c (they need not differ)");
        CellMapper x = Samples.withInputs(2);
        CHECK.due("b is a", x.function(0, 0, -1, 8), 2);
        CHECK.due("all one", x.function(1, 1, 1, 128), 3);
        CHECK.due("c is a", x.function(0, 1, 0, 0x96), 4);
        CHECK.due("c is b", x.function(0, 1, 1, 0x96), 5);
        CHECK.due("a and a", x.nodeOf(2), 0);
        CHECK.due("b and b and b", x.nodeOf(3), 1);
        x.output(4);
        x.output(5);
        for (int inputs = 0; inputs < 4; inputs++) {
            CHECK.due("a ^ b ^ a and a ^ b ^ b", x.clock(inputs), (inputs >> 1) | ((inputs & 1) << 1));
        }
    }

    private static void functionBad(String what, int... call) {
        CellMapper x = Samples.withInputs(2);
        CHECK.due(what, x.function(call[0], call[1], call[2], call[3]), -1);
        CHECK.due("nodes() behind " + what, x.nodes(), 2);
    }

    private static void functionOfNoNet() {
        CHECK.sentence("4: BAD when a is no net");
        for (int a : new int[] {-1, -2, 2, 3, 39, 40, 256, Samples.LEAST, Samples.GREATEST}) {
            functionBad("one net, a " + a, a, -1, -1, 1);
            functionBad("two nets, a " + a, a, 1, -1, 8);
            functionBad("three nets, a " + a, a, 1, 0, 128);
        }
        CellMapper x = Samples.withInputs(2);
        CHECK.due("a is the first", x.function(0, -1, -1, 1), 2);
        CHECK.due("a is the last", x.function(2, -1, -1, 1), 3);
    }

    private static void functionOfNoSecondOrThirdNet() {
        CHECK.sentence("4: BAD when .. b or c is neither a net nor -1");
        for (int net : new int[] {-2, -3, 2, 3, 39, 40, 256, Samples.LEAST, Samples.GREATEST}) {
            functionBad("two nets, b " + net, 0, net, -1, 8);
            functionBad("three nets, b " + net, 0, net, 1, 128);
            functionBad("three nets, c " + net, 0, 1, net, 128);
            functionBad("no second net, c " + net, 0, -1, net, 1);
        }
        CellMapper x = Samples.withInputs(2);
        CHECK.due("b is the last, c is -1", x.function(0, 1, -1, 8), 2);
        CHECK.due("c is the last", x.function(0, 1, 2, 128), 3);
        CHECK.due("b is the first", x.function(1, 0, -1, 8), 4);
    }

    private static void functionWithoutSecondNet() {
        CHECK.sentence("4: BAD when .. b is -1 and c is not");
        functionBad("c is 0, a table of one net", 0, -1, 0, 1);
        functionBad("c is 1, a table of two nets", 0, -1, 1, 8);
        functionBad("c is 1, a table of three nets", 0, -1, 1, 128);
        CHECK.due("both are -1", Samples.withInputs(2).function(0, -1, -1, 1), 2);
    }

    private static void functionTableRange() {
        CHECK.sentence("4: BAD when .. table is not from 0 to 3, 15 or 255");
        for (int nets = 1; nets <= 3; nets++) {
            int b = nets > 1 ? 1 : -1;
            int c = nets > 2 ? 0 : -1;
            int end = 1 << (1 << nets);
            int[] wrong = {-1, -2, -end + 1, end, end + 1, 2 * end + 1, Samples.LEAST, Samples.LEAST + 1,
                Samples.GREATEST, Samples.GREATEST - 1};
            for (int table : wrong) {
                functionBad(nets + " nets, table " + table, 0, b, c, table);
            }
            CHECK.due(nets + " nets, table 1", Samples.withInputs(2).function(0, b, c, 1), 2);
            CHECK.due(nets + " nets, the last but one", Samples.withInputs(2).function(0, b, c, end - 2), 2);
        }
        CHECK.due("table 4 of two nets", Samples.withInputs(2).function(0, 1, -1, 4), 2);
        CHECK.due("table 16 of three nets", Samples.withInputs(2).function(0, 1, 0, 16), 2);
    }

    private static void functionTableConstant() {
        CHECK.sentence("4: BAD when the table is constant");
        functionBad("0 of one net", 0, -1, -1, 0);
        functionBad("1 of one net", 0, -1, -1, 3);
        functionBad("0 of two nets", 0, 1, -1, 0);
        functionBad("1 of two nets", 0, 1, -1, 15);
        functionBad("0 of three nets", 0, 1, 0, 0);
        functionBad("1 of three nets", 0, 1, 0, 255);
        CHECK.due("table 3 of two nets", Samples.withInputs(2).function(0, 1, -1, 3), 2);
        CHECK.due("table 15 of three nets", Samples.withInputs(2).function(0, 1, 0, 15), 2);
        CHECK.due("not constant, but for like nets", Samples.withInputs(2).function(0, 0, -1, 6), 2);
    }

    private static void functionFullOfNets() {
        CHECK.sentence("4: FULL when there are 40 nets");
        CellMapper x = Samples.withInputs(2);
        Samples.addNets(x, 2, 39);
        CHECK.due("with 39", x.function(0, 1, -1, 8), 39);
        CHECK.due("with 40", x.function(0, 1, -1, 8), -2);
        CHECK.due("with 40, where no node is to be made", x.function(0, -1, -1, 2), -2);
        CHECK.due("nodes()", x.nodes(), 4);
    }

    private static void functionFullOfNodes() {
        CHECK.sentence("4: FULL when there are .. more than 32 nodes.");
        CellMapper x = Samples.withThirtyTwoNodes();
        CHECK.due("with 32, where no node is to be made", x.function(0, -1, -1, 2), 10);
        CHECK.due("with 32 still", x.function(9, -1, -1, 1), 11);
        CHECK.due("nodes()", x.nodes(), 33);
        CHECK.due("with 33", x.function(8, -1, -1, 1), -2);
        CHECK.due("with 33, where no node is to be made", x.function(0, -1, -1, 2), -2);
        CHECK.due("nodes() behind", x.nodes(), 33);
        CHECK.due("with 48", Samples.withNodes(48).function(0, -1, -1, 2), -2);
        CellMapper y = Samples.withThirtyTwoNodes();
        y.latch(0);
        CHECK.due("with 33, the last by a latch", y.function(0, -1, -1, 2), -2);
    }

    private static void driveInPlaceOfAnother() {
        CHECK.sentence("5: The net drives the latch from now on (also in place of another one): true.");
        CellMapper x = Samples.withInputs(2);
        x.latch(0);
        x.output(2);
        CHECK.due("drive(2, 0)", x.drive(2, 0), true);
        x.clock(1);
        CHECK.due("net 0 was taken", x.clock(1), 1);
        CHECK.due("drive(2, 1)", x.drive(2, 1), true);
        x.clock(1);
        CHECK.due("net 1 was taken", x.clock(2), 0);
        CHECK.due("net 1 was taken again", x.clock(0), 1);
        CHECK.due("the same once more", x.drive(2, 1), true);
        CHECK.due("by itself", x.drive(2, 2), true);
        CHECK.due("by a net made behind it", x.drive(2, x.function(2, -1, -1, 1)), true);
        x.clock(0);
        CHECK.due("not 0", x.clock(0), 1);
        CHECK.due("another latch by it", x.drive(x.latch(0), 2), true);
    }

    private static void driveOfNoLatch() {
        CHECK.sentence("5: False when latch is no net that is a latch");
        CellMapper x = Samples.withInputs(1);
        x.latch(1);
        x.function(1, -1, -1, 2);
        x.drive(1, 0);
        for (int latch : new int[] {-1, -2, 0, 2, 3, 39, 40, Samples.LEAST, Samples.GREATEST}) {
            CHECK.due("drive(" + latch + ", 1)", x.drive(latch, 1), false);
        }
        CHECK.due("drive(1, 1)", x.drive(1, 1), true);
    }

    private static void driveByNoNet() {
        CHECK.sentence("5: False when .. net is no net.");
        CellMapper x = Samples.withInputs(1);
        x.latch(1);
        for (int net : new int[] {-1, -2, 2, 3, 39, 40, Samples.LEAST, Samples.GREATEST}) {
            CHECK.due("drive(1, " + net + ")", x.drive(1, net), false);
            CHECK.due("it is still not driven", x.clock(0), -3);
        }
        CHECK.due("by the first", x.drive(1, 0), true);
        CHECK.due("by the last", x.drive(1, 1), true);
    }

    private static void outputNumbers() {
        CHECK.sentence("6: Adds an output: its number.");
        CellMapper x = Samples.withInputs(1);
        x.latch(1);
        x.function(0, -1, -1, 1);
        CHECK.due("of a function", x.output(2), 0);
        CHECK.due("of a latch", x.output(1), 1);
        CHECK.due("of an input", x.output(0), 2);
        x.drive(1, 0);
        CHECK.due("their values", x.clock(0), 3);
    }

    private static void outputOfNoNet() {
        CHECK.sentence("6: BAD when net is no net");
        CellMapper x = Samples.withInputs(2);
        for (int net : new int[] {-1, -2, 2, 3, 39, 40, Samples.LEAST, Samples.GREATEST}) {
            CHECK.due("output(" + net + ")", x.output(net), -1);
        }
        CHECK.due("the first", x.output(0), 0);
        CHECK.due("the last", x.output(1), 1);
    }

    private static void outputFull() {
        CHECK.sentence("6: FULL when there are 4.");
        CellMapper x = Samples.withInputs(5);
        for (int k = 0; k < 4; k++) {
            CHECK.due("with " + k, x.output(k), k);
        }
        CHECK.due("with 4", x.output(4), -2);
        CHECK.due("with 4, again", x.output(0), -2);
    }

    private static void cellPattern() {
        CHECK.sentence("7: BAD when pattern is not as said");
        int right = 0;
        for (int pattern = -1000; pattern < 1 << 17; pattern++) {
            boolean fine = Reference.parse(pattern) != null;
            right += fine ? 1 : 0;
            CHECK.due("cell(" + pattern + ", 1, 1)", new CellMapper().cell(pattern, 1, 1), fine ? 0 : -1);
        }
        CHECK.due("patterns in all", right, 88);
        CellMapper x = new CellMapper();
        for (int high = 14; high < 32; high++) {
            CHECK.due("INV and bit " + high, x.cell(Samples.INV | 1 << high, 1, 1), -1);
            CHECK.due("seven digits and bit " + high, x.cell(Samples.pattern("3311311") | 1 << high, 1, 1), -1);
        }
    }

    private static void cellArea() {
        CHECK.sentence("7: BAD when .. area is not 1 .. 1000");
        CellMapper x = new CellMapper();
        for (int area : new int[] {0, -1, -1000, 1001, 1002, 65537, Samples.LEAST, Samples.LEAST + 1, Samples.GREATEST}) {
            CHECK.due("area " + area, x.cell(Samples.INV, area, 1), -1);
        }
        CHECK.due("area 1", x.cell(Samples.INV, 1, 1), 0);
        CHECK.due("area 1000", x.cell(Samples.NAND, 1000, 1), 1);
    }

    private static void cellDelay() {
        CHECK.sentence("7: BAD when .. delay is not 0 .. 1000");
        CellMapper x = new CellMapper();
        for (int delay : new int[] {-1, -2, -1000, 1001, 1002, 65536, Samples.LEAST, Samples.LEAST + 1, Samples.GREATEST}) {
            CHECK.due("delay " + delay, x.cell(Samples.INV, 1, delay), -1);
        }
        CHECK.due("delay 0", x.cell(Samples.INV, 1, 0), 0);
        CHECK.due("delay 1000", x.cell(Samples.NAND, 1, 1000), 1);
    }

    private static void cellFull() {
        CHECK.sentence("7: FULL when there are 8.");
        CellMapper x = new CellMapper();
        for (int cell = 0; cell < 8; cell++) {
            CHECK.due("with " + cell, x.cell(Samples.INV, 1, 1), cell);
        }
        CHECK.due("with 8, one that is there", x.cell(Samples.INV, 1, 1), -2);
        CHECK.due("with 8, another", x.cell(Samples.NAND, 2, 2), -2);
        CHECK.due("so there is no NAND", x.map(), -5);
    }

    private static void numberOfNodes() {
        CHECK.sentence("8: The number of nodes.");
        CellMapper x = Samples.withCells();
        CHECK.due("of none", x.nodes(), 0);
        x.input();
        CHECK.due("an input", x.nodes(), 1);
        x.latch(0);
        CHECK.due("a latch", x.nodes(), 2);
        x.function(0, -1, -1, 2);
        CHECK.due("a function at a node that was there", x.nodes(), 2);
        x.function(0, 1, -1, 8);
        CHECK.due("two new nodes", x.nodes(), 4);
        x.output(3);
        x.drive(1, 3);
        x.map();
        CHECK.due("nothing else makes one", x.nodes(), 4);
        CHECK.due("the most", Samples.withNodes(48).nodes(), 48);
    }

    private static void nodeOfNoNet() {
        CHECK.sentence("9: The node of a net; BAD when there is no such net.");
        CellMapper x = Samples.withInputs(2);
        x.function(0, 1, -1, 8);
        for (int net : new int[] {-1, -2, 3, 4, 39, 40, Samples.LEAST, Samples.GREATEST}) {
            CHECK.due("nodeOf(" + net + ")", x.nodeOf(net), -1);
        }
        CHECK.due("the first", x.nodeOf(0), 0);
        CHECK.due("the last", x.nodeOf(2), 3);
        CHECK.due("of the 48th node", Samples.withNodes(48).nodeOf(14), 47);
    }

    private static void partsOfNodes() {
        CHECK.sentence("10: Node x of NAND(x, y) or INV(x) for which 0, node y for which 1");
        CellMapper x = Samples.withInputs(2);
        x.function(1, 0, -1, 8);
        CHECK.due("x of NAND", x.part(2, 0), 0);
        CHECK.due("y of NAND", x.part(2, 1), 1);
        CHECK.due("x of INV", x.part(3, 0), 2);
    }

    private static void partsThatAreNone() {
        CHECK.sentence("10: -1 where there is none (inputs, latches, INV for 1, other values of which, "
            + "and when there is no such node).");
        CellMapper x = Samples.withInputs(1);
        x.latch(1);
        x.drive(1, 0);
        x.function(0, 1, -1, 8);
        int[] others = {-1, -2, 2, 3, 64, Samples.LEAST, Samples.LEAST + 1, Samples.GREATEST};
        for (int which = 0; which < 2; which++) {
            CHECK.due("an input for " + which, x.part(0, which), -1);
            CHECK.due("a latch for " + which, x.part(1, which), -1);
            for (int node : new int[] {-1, -2, 4, 5, 47, 48, 49, Samples.LEAST, Samples.GREATEST}) {
                CHECK.due("part(" + node + ", " + which + ")", x.part(node, which), -1);
            }
        }
        CHECK.due("INV for 1", x.part(3, 1), -1);
        for (int which : others) {
            CHECK.due("NAND for " + which, x.part(2, which), -1);
            CHECK.due("INV for " + which, x.part(3, which), -1);
        }
        CHECK.due("the 48th node, a latch", Samples.withNodes(48).part(47, 0), -1);
        CHECK.due("behind the 48th node", Samples.withNodes(48).part(48, 0), -1);
    }
}
