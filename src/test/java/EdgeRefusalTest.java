import java.util.function.Consumer;
import java.util.function.Supplier;

/** "A call that is refused changes nothing. When several refusals hold, the one that is said first counts." */
public final class EdgeRefusalTest {
    private static final Check CHECK = new Check();

    public static void main(String[] args) {
        CHECK.sentence("A call that is refused changes nothing.");
        badCallsOnNothing();
        badCallsInTheMidst();
        badCallsOfFunction();
        badQuestions();
        fullOfInputsAndLatches();
        fullOfNets();
        fullOfNodes();
        fullForFunctions();
        fullOfOutputs();
        fullOfCells();
        undrivenCalls();
        ringCalls();
        libraryCalls();
        unmappedCalls();
        latchBadBeforeFull();
        functionBadBeforeFull();
        outputBadBeforeFull();
        cellBadBeforeFull();
        mapUndrivenBeforeRing();
        mapUndrivenBeforeLibrary();
        mapRingBeforeLibrary();
        unmappedBeforeNoGate();
        CHECK.finish();
    }

    /** All that can be asked without changing anything, as one text; at most some 330 calls. */
    private static String look(CellMapper x) {
        StringBuilder text = new StringBuilder();
        int nodes = x.nodes();
        text.append(nodes).append(' ').append(x.area());
        text.append(' ').append(x.period()).append(' ').append(x.shortest());
        for (int net = 0; x.nodeOf(net) >= 0 && net < 40; net++) {
            text.append(" n").append(x.nodeOf(net));
        }
        for (int node = 0; node < nodes; node++) {
            text.append(" p").append(x.part(node, 0)).append(',').append(x.part(node, 1));
            int cell = x.cellAt(node);
            if (cell >= 0) {
                text.append(" c").append(cell).append(" m").append(x.moves(node)).append(" l").append(x.latches(node, 0));
            }
        }
        for (int output = 0; output < 4; output++) {
            text.append(" o").append(x.latches(-1, output));
        }
        return text.toString();
    }

    private static String cycles(CellMapper x) {
        StringBuilder text = new StringBuilder();
        for (int cycle = 0; cycle < 6; cycle++) {
            text.append(' ').append(x.clock(5 * cycle)).append(' ').append(x.clockRetimed(3 * cycle));
        }
        return text.toString();
    }

    /** What is added next shows the numbers that nets, outputs and cells have come to. */
    private static String additions(CellMapper x) {
        StringBuilder text = new StringBuilder();
        text.append(x.output(0)).append(' ').append(x.cell(Samples.INV, 1, 1)).append(' ');
        text.append(x.function(0, -1, -1, 1)).append(' ').append(x.input()).append(' ').append(x.latch(0));
        return text.append(' ').append(x.map()).append(' ').append(x.clock(1)).toString();
    }

    /** Two objects with the same past, one of which is asked for what it refuses. */
    private static void nothingChanges(String what, Supplier<CellMapper> past, Consumer<CellMapper> refused) {
        CellMapper plain = past.get();
        CellMapper asked = past.get();
        refused.accept(asked);
        CHECK.due(what + ": answers", look(asked), look(plain));
        refused.accept(asked);
        CHECK.due(what + ": cycles", cycles(asked), cycles(plain));
        refused.accept(asked);
        CHECK.due(what + ": additions", additions(asked), additions(plain));
    }

    private static void badCallsOnNothing() {
        nothingChanges("on nothing", CellMapper::new, x -> {
            CHECK.due("latch(2)", x.latch(2), -1);
            CHECK.due("function(0, -1, -1, 1)", x.function(0, -1, -1, 1), -1);
            CHECK.due("drive(0, -1)", x.drive(0, -1), false);
            CHECK.due("output(-1)", x.output(-1), -1);
            CHECK.due("cell(0, 1, 1)", x.cell(0, 1, 1), -1);
        });
    }

    /** Two inputs, two latches, one move, and both circuits in their third cycle. */
    private static CellMapper inTheMidst() {
        CellMapper x = Samples.withCells(2, 3);
        x.input();
        x.latch(0);
        x.latch(1);
        x.input();
        x.function(1, 2, -1, 8);
        x.function(4, 3, -1, 6);
        x.drive(1, 3);
        x.drive(2, 0);
        x.output(5);
        x.output(2);
        CHECK.due("map()", x.map(), 6);
        CHECK.due("moves of NAND(1, 2)", x.moves(4), 1);
        x.clock(1);
        x.clock(2);
        x.clockRetimed(3);
        x.clockRetimed(1);
        return x;
    }

    private static void badCallsInTheMidst() {
        for (int number : new int[] {-1, 2, 6, 40, Samples.LEAST, Samples.GREATEST}) {
            nothingChanges("latch(" + number + ")", EdgeRefusalTest::inTheMidst,
                x -> CHECK.due("latch(" + number + ")", x.latch(number), -1));
        }
        for (int number : new int[] {-1, 6, 40, Samples.LEAST, Samples.GREATEST}) {
            nothingChanges("drive by " + number, EdgeRefusalTest::inTheMidst,
                x -> CHECK.due("drive(1, " + number + ")", x.drive(1, number), false));
            nothingChanges("drive of " + number, EdgeRefusalTest::inTheMidst,
                x -> CHECK.due("drive(" + number + ", 0)", x.drive(number, 0), false));
            nothingChanges("output " + number, EdgeRefusalTest::inTheMidst,
                x -> CHECK.due("output(" + number + ")", x.output(number), -1));
            nothingChanges("cell " + number, EdgeRefusalTest::inTheMidst,
                x -> CHECK.due("cell(" + (number | 1) + ", 1, 1)", x.cell(number | 1, 1, 1), -1));
        }
        nothingChanges("drive of an input", EdgeRefusalTest::inTheMidst,
            x -> CHECK.due("drive(0, 1)", x.drive(0, 1), false));
        nothingChanges("drive of a function", EdgeRefusalTest::inTheMidst,
            x -> CHECK.due("drive(4, 1)", x.drive(4, 1), false));
        nothingChanges("area 0", EdgeRefusalTest::inTheMidst,
            x -> CHECK.due("cell(6, 0, 1)", x.cell(Samples.INV, 0, 1), -1));
        nothingChanges("delay -1", EdgeRefusalTest::inTheMidst,
            x -> CHECK.due("cell(6, 1, -1)", x.cell(Samples.INV, 1, -1), -1));
    }

    private static void badCallsOfFunction() {
        int[][] calls = {{-1, -1, -1, 1}, {6, -1, -1, 1}, {0, 6, -1, 8}, {0, -2, -1, 8}, {0, 3, 6, 9}, {0, 3, -2, 9},
            {0, -1, 3, 1}, {0, -1, -1, 0}, {0, -1, -1, 3}, {0, -1, -1, 4}, {0, 3, -1, 0}, {0, 3, -1, 15}, {0, 3, -1, 16},
            {0, 3, 1, 0}, {0, 3, 1, 255}, {0, 3, 1, 256}, {0, 3, 1, -1}};
        for (int[] call : calls) {
            String what = "function(" + call[0] + ", " + call[1] + ", " + call[2] + ", " + call[3] + ")";
            nothingChanges(what, EdgeRefusalTest::inTheMidst,
                x -> CHECK.due(what, x.function(call[0], call[1], call[2], call[3]), -1));
        }
    }

    private static void badQuestions() {
        nothingChanges("questions", EdgeRefusalTest::inTheMidst, x -> {
            CHECK.due("nodeOf(6)", x.nodeOf(6), -1);
            CHECK.due("part(-1, 0)", x.part(-1, 0), -1);
            CHECK.due("part(48, 1)", x.part(48, 1), -1);
            CHECK.due("cellAt(-1)", x.cellAt(-1), -1);
            CHECK.due("moves(48)", x.moves(48), -1);
            CHECK.due("latches(-1, 4)", x.latches(-1, 4), -1);
            CHECK.due("latches(-2, 0)", x.latches(-2, 0), -1);
        });
    }

    private static CellMapper started(CellMapper x, int output) {
        x.cell(Samples.INV, 1, 1);
        x.cell(Samples.NAND, 1, 1);
        x.output(output);
        CHECK.due("map()", x.map() >= 0, true);
        x.clock(1);
        x.clockRetimed(1);
        return x;
    }

    private static void fullOfInputsAndLatches() {
        Supplier<CellMapper> past = () -> {
            CellMapper x = new CellMapper();
            Samples.addRow(x, 1, 0, 1, 1, 0, 1);
            Samples.addInputs(x, 5);
            return started(x, 6);
        };
        nothingChanges("6 inputs", past, x -> CHECK.due("input()", x.input(), -2));
        nothingChanges("6 latches", past, x -> CHECK.due("latch(1)", x.latch(1), -2));
    }

    private static void fullOfNets() {
        Supplier<CellMapper> past = () -> {
            CellMapper x = new CellMapper();
            Samples.addRow(x, 1, 0);
            x.function(1, 2, -1, 6);
            Samples.addNets(x, 4, 40);
            return started(x, 3);
        };
        nothingChanges("40 nets", past, x -> CHECK.due("input()", x.input(), -2));
        nothingChanges("40 nets", past, x -> CHECK.due("latch(1)", x.latch(1), -2));
        nothingChanges("40 nets", past, x -> CHECK.due("function", x.function(0, 1, 2, 0x96), -2));
    }

    private static void fullOfNodes() {
        Supplier<CellMapper> past = () -> started(Samples.withNodes(48), 4);
        nothingChanges("48 nodes", past, x -> CHECK.due("input()", x.input(), -2));
        nothingChanges("48 nodes", past, x -> CHECK.due("latch(0)", x.latch(0), -2));
        nothingChanges("48 nodes", past, x -> CHECK.due("function", x.function(0, 4, 5, 0x96), -2));
    }

    private static void fullForFunctions() {
        Supplier<CellMapper> past = () -> {
            CellMapper x = Samples.withThirtyTwoNodes();
            x.input();
            return started(x, 7);
        };
        nothingChanges("33 nodes", past, x -> CHECK.due("function", x.function(3, 7, 8, 0x96), -2));
    }

    private static void fullOfOutputs() {
        Supplier<CellMapper> past = () -> {
            CellMapper x = Samples.withInputs(2);
            x.output(0);
            x.output(1);
            x.output(1);
            return started(x, 0);
        };
        nothingChanges("4 outputs", past, x -> CHECK.due("output(1)", x.output(1), -2));
    }

    private static void fullOfCells() {
        Supplier<CellMapper> past = () -> {
            CellMapper x = Samples.withInputs(2);
            x.function(0, 1, -1, 8);
            for (int k = 0; k < 6; k++) {
                x.cell(Samples.OR, 3, 3);
            }
            return started(x, 2);
        };
        nothingChanges("8 cells", past, x -> CHECK.due("cell", x.cell(Samples.AND, 1, 0), -2));
    }

    private static void undrivenCalls() {
        Supplier<CellMapper> past = () -> {
            CellMapper x = Samples.withCells();
            Samples.addRow(x, 1, 0);
            x.latch(1);
            x.output(2);
            return x;
        };
        nothingChanges("not driven", past, x -> CHECK.due("map()", x.map(), -3));
        nothingChanges("not driven", past, x -> CHECK.due("clock(1)", x.clock(1), -3));
    }

    private static void ringCalls() {
        nothingChanges("a ring", () -> {
            CellMapper x = Samples.withCells();
            x.latch(1);
            x.latch(0);
            x.latch(0);
            x.drive(0, 1);
            x.drive(1, 2);
            x.drive(2, 0);
            x.output(0);
            x.clock(0);
            return x;
        }, x -> CHECK.due("map()", x.map(), -4));
    }

    private static void libraryCalls() {
        nothingChanges("no NAND", () -> {
            CellMapper x = new CellMapper();
            x.cell(Samples.INV, 1, 1);
            Samples.addRow(x, 1, 0, 1);
            x.output(3);
            x.clock(0);
            return x;
        }, x -> CHECK.due("map()", x.map(), -5));
    }

    private static void unmappedCalls() {
        nothingChanges("not mapped", () -> {
            CellMapper x = Samples.withCells();
            Samples.addRow(x, 1, 0, 1);
            x.output(3);
            x.clock(0);
            return x;
        }, x -> {
            CHECK.due("area()", x.area(), -6);
            CHECK.due("cellAt(0)", x.cellAt(0), -6);
            CHECK.due("period()", x.period(), -6);
            CHECK.due("shortest()", x.shortest(), -6);
            CHECK.due("moves(0)", x.moves(0), -6);
            CHECK.due("latches(-1, 0)", x.latches(-1, 0), -6);
            CHECK.due("clockRetimed(1)", x.clockRetimed(1), -6);
        });
    }

    private static CellMapper withFortyNets() {
        CellMapper x = Samples.withInputs(1);
        Samples.addNets(x, 1, 40);
        return x;
    }

    private static void latchBadBeforeFull() {
        CHECK.sentence("When several refusals hold, the one that is said first counts. (3: BAD before FULL)");
        CellMapper x = new CellMapper();
        for (int k = 0; k < 6; k++) {
            x.latch(0);
        }
        CHECK.due("6 latches", x.latch(2), -1);
        CHECK.due("40 nets", withFortyNets().latch(-1), -1);
        CHECK.due("48 nodes", Samples.withNodes(48).latch(Samples.GREATEST), -1);
    }

    private static void functionBadBeforeFull() {
        CHECK.sentence("When several refusals hold, the one that is said first counts. (4: BAD before FULL)");
        int[][] calls = {{-1, -1, -1, 1}, {0, 40, -1, 8}, {0, 0, -2, 9}, {0, -1, 0, 1}, {0, -1, -1, 4}, {0, -1, -1, 0},
            {0, 0, -1, 15}, {0, 0, 0, 255}, {0, 0, 0, 256}};
        for (int[] call : calls) {
            String what = "function(" + call[0] + ", " + call[1] + ", " + call[2] + ", " + call[3] + ")";
            CHECK.due("40 nets " + what, withFortyNets().function(call[0], call[1], call[2], call[3]), -1);
            CHECK.due("48 nodes " + what, Samples.withNodes(48).function(call[0], call[1], call[2], call[3]), -1);
        }
        CHECK.due("40 nets, a good call", withFortyNets().function(0, 0, 0, 254), -2);
        CHECK.due("48 nodes, a good call", Samples.withNodes(48).function(0, 0, 0, 254), -2);
    }

    private static void outputBadBeforeFull() {
        CHECK.sentence("When several refusals hold, the one that is said first counts. (6: BAD before FULL)");
        CellMapper x = Samples.withInputs(1);
        for (int k = 0; k < 4; k++) {
            x.output(0);
        }
        CHECK.due("output(1)", x.output(1), -1);
        CHECK.due("output(-1)", x.output(-1), -1);
        CHECK.due("output(0)", x.output(0), -2);
    }

    private static void cellBadBeforeFull() {
        CHECK.sentence("When several refusals hold, the one that is said first counts. (7: BAD before FULL)");
        CellMapper x = new CellMapper();
        for (int k = 0; k < 8; k++) {
            x.cell(Samples.INV, 1, 1);
        }
        CHECK.due("pattern", x.cell(1, 1, 1), -1);
        CHECK.due("area", x.cell(Samples.INV, 1001, 1), -1);
        CHECK.due("delay", x.cell(Samples.INV, 1, 1001), -1);
        CHECK.due("a good call", x.cell(Samples.INV, 1000, 1000), -2);
    }

    /** Latches 0 and 1 drive each other; latch 2 is driven by them or not. */
    private static CellMapper ring(CellMapper x, boolean driven) {
        x.latch(0);
        x.latch(0);
        x.latch(0);
        x.drive(0, 1);
        x.drive(1, 0);
        if (driven) {
            x.drive(2, 0);
        }
        return x;
    }

    private static void mapUndrivenBeforeRing() {
        CHECK.sentence("When several refusals hold, the one that is said first counts. (11: UNDRIVEN before RING)");
        CHECK.due("both", ring(Samples.withCells(), false).map(), -3);
        CHECK.due("ring alone", ring(Samples.withCells(), true).map(), -4);
    }

    private static void mapUndrivenBeforeLibrary() {
        CHECK.sentence("When several refusals hold, the one that is said first counts. (11: UNDRIVEN before LIBRARY)");
        CellMapper x = new CellMapper();
        x.latch(0);
        CHECK.due("both", x.map(), -3);
        x.drive(0, x.input());
        CHECK.due("library alone", x.map(), -5);
        CHECK.due("all three", ring(new CellMapper(), false).map(), -3);
    }

    private static void mapRingBeforeLibrary() {
        CHECK.sentence("When several refusals hold, the one that is said first counts. (11: RING before LIBRARY)");
        CellMapper x = ring(new CellMapper(), true);
        CHECK.due("both", x.map(), -4);
        x.drive(0, x.input());
        CHECK.due("library alone", x.map(), -5);
    }

    private static void unmappedBeforeNoGate() {
        CHECK.sentence("13, 16, 17: UNMAPPED is tested first.");
        CellMapper x = Samples.withInputs(1);
        CHECK.due("cellAt(0)", x.cellAt(0), -6);
        CHECK.due("cellAt(9)", x.cellAt(9), -6);
        CHECK.due("moves(0)", x.moves(0), -6);
        CHECK.due("moves(9)", x.moves(9), -6);
        CHECK.due("latches(0, 9)", x.latches(0, 9), -6);
        CHECK.due("latches(-1, 9)", x.latches(-1, 9), -6);
    }
}
