/** Promises 14 to 17: periods, moves and the latches of the retimed circuit. */
public final class RetimeTest {
    private static final Check CHECK = new Check();

    public static void main(String[] args) {
        latchesCutPaths();
        slowestGateIsTheLeast();
        zeroDelays();
        movesThroughTwoGates();
        fewestMoves();
        latchIntoEachConnection();
        inputsGiveNoLatches();
        ringOfGates();
        signalsAgainstTheNumbers();
        manyMoves();
        latchesOfOutputs();
        latchValues();
        gateOfNoUse();
        noSuchPins();
        CHECK.finish();
    }

    /** Input, NAND with the next input, latch, NAND, INV. */
    private static void latchesCutPaths() {
        CellMapper x = Samples.withCells(3, 5);
        x.input();
        x.input();
        x.latch(1);
        x.function(0, 1, -1, 7);
        x.drive(2, 3);
        x.function(2, 0, -1, 8);
        x.output(4);
        CHECK.due("11: map()", x.map(), 3);
        CHECK.due("14: longest piece", x.period(), 8);
        CHECK.due("15: an input stands beside the latch", x.shortest(), 8);
        CHECK.due("17: latch behind the first NAND", x.latches(5, 1), 65);
        CHECK.due("17: other pin of the second", x.latches(5, 0), 0);
        x.drive(2, 0);
        CHECK.due("11: map() without the first NAND", x.map(), 2);
        CHECK.due("14: period then", x.period(), 8);
    }

    private static void slowestGateIsTheLeast() {
        CellMapper x = Samples.withCells(7, 4);
        x.input();
        x.latch(0);
        x.latch(0);
        x.drive(1, 0);
        x.drive(2, 1);
        x.function(2, -1, -1, 1);
        x.output(3);
        CHECK.due("11: one INV", x.map(), 1);
        CHECK.due("14: its delay", x.period(), 7);
        CHECK.due("15: no move helps", x.shortest(), 7);
        CHECK.due("16: no move", x.moves(3), 0);
        CHECK.due("17: both latches before it", x.latches(3, 0), 2);
    }

    private static void zeroDelays() {
        CellMapper x = Samples.withCells(0, 0);
        x.input();
        x.latch(0);
        x.drive(1, 0);
        x.function(1, 0, -1, 6);
        x.output(2);
        CHECK.due("11: map()", x.map(), 5);
        CHECK.due("14: period", x.period(), 0);
        CHECK.due("15: shortest", x.shortest(), 0);
        for (int node = 2; node < 7; node++) {
            CHECK.due("16: moves(" + node + ")", x.moves(node), 0);
        }
    }

    /** in, latch, latch, then NAND(q, INV(q)) and INV: the last gates are reached through all before. */
    private static void movesThroughTwoGates() {
        CellMapper x = Samples.withCells(2, 3);
        x.input();
        x.latch(1);
        x.latch(1);
        x.drive(1, 0);
        x.drive(2, 1);
        x.function(2, 2, -1, 6);
        x.output(3);
        CHECK.due("11: map()", x.map(), 3);
        CHECK.due("14: all in a row", x.period(), 7);
        CHECK.due("15: one latch behind each of two", x.shortest(), 3);
        CHECK.due("16: first INV", x.moves(3), 2);
        CHECK.due("16: NAND", x.moves(4), 1);
        CHECK.due("16: last INV", x.moves(5), 0);
        CHECK.due("17: first INV's pin", x.latches(3, 0), 0);
        CHECK.due("17: NAND from the latch", x.latches(4, 0), 65);
        CHECK.due("17: NAND from the INV", x.latches(4, 1), 1);
        CHECK.due("17: last INV's pin", x.latches(5, 0), 65);
        CHECK.due("17: output", x.latches(-1, 0), 0);
    }

    /** Six latches before a chain whose period needs one of them moved through one gate. */
    private static void fewestMoves() {
        CellMapper x = Samples.withCells(1, 2);
        x.input();
        for (int latch = 1; latch <= 6; latch++) {
            x.latch(0);
            x.drive(latch, latch - 1);
        }
        x.function(6, 5, -1, 8);
        x.output(7);
        CHECK.due("11: NAND and INV", x.map(), 2);
        CHECK.due("14: period", x.period(), 3);
        CHECK.due("15: shortest", x.shortest(), 2);
        CHECK.due("16: NAND", x.moves(7), 1);
        CHECK.due("16: INV", x.moves(8), 0);
        CHECK.due("17: NAND from five", x.latches(7, 0), 4);
        CHECK.due("17: NAND from six", x.latches(7, 1), 5);
        CHECK.due("17: INV", x.latches(8, 0), 65);
    }

    private static void latchIntoEachConnection() {
        CellMapper x = Samples.withCells(1, 2);
        x.input();
        x.latch(0);
        x.drive(1, 0);
        x.function(1, -1, -1, 1);
        x.function(2, 1, -1, 7);
        x.output(3);
        x.output(2);
        x.output(2);
        CHECK.due("11: map()", x.map(), 2);
        CHECK.due("14: period", x.period(), 3);
        CHECK.due("15: shortest", x.shortest(), 2);
        CHECK.due("16: INV", x.moves(2), 1);
        CHECK.due("17: output of the INV", x.latches(-1, 1), 65);
        CHECK.due("17: its other output", x.latches(-1, 2), 65);
        CHECK.due("17: NAND from the INV", x.latches(3, 1), 65);
        CHECK.due("17: NAND from the latch", x.latches(3, 0), 1);
        CHECK.due("17: output of the NAND", x.latches(-1, 0), 0);
    }

    private static void inputsGiveNoLatches() {
        CellMapper x = Samples.withCells(1, 1);
        x.input();
        x.input();
        x.latch(1);
        x.drive(2, 0);
        x.function(2, 1, -1, 8);
        x.output(3);
        CHECK.due("11: map()", x.map(), 2);
        CHECK.due("15: one pin has no latch", x.shortest(), 2);
        CHECK.due("16: NAND", x.moves(3), 0);
        CHECK.due("17: pin from the other input", x.latches(3, 0), 0);
        CHECK.due("17: pin with the latch", x.latches(3, 1), 65);
    }

    /** Two latches at one place of a ring of four gates: one of them goes to the other side. */
    private static void ringOfGates() {
        CellMapper x = Samples.withCells(1, 1);
        x.latch(0);
        x.latch(1);
        x.drive(1, 0);
        x.function(1, 1, -1, 6);
        x.function(2, -1, -1, 2);
        x.drive(0, 3);
        x.output(3);
        CHECK.due("11: INV, NAND, INV", x.map(), 3);
        CHECK.due("14: period", x.period(), 3);
        CHECK.due("15: three gates, two latches", x.shortest(), 2);
        CHECK.due("16: first INV", x.moves(2), 1);
        CHECK.due("16: NAND", x.moves(3), 0);
        CHECK.due("16: last INV", x.moves(4), 0);
        CHECK.due("17: first INV's pin", x.latches(2, 0), 1);
        CHECK.due("17: NAND from the last INV", x.latches(3, 0), 2 + 64 * 2);
        CHECK.due("17: NAND from the first INV", x.latches(3, 1), 1);
    }

    /** A ring INV, NAND, INV with two latches before it: both move on, and the last gate feeds the first. */
    private static void signalsAgainstTheNumbers() {
        CellMapper x = Samples.withCells(1, 2);
        x.latch(0);
        x.latch(1);
        x.latch(0);
        x.drive(1, 0);
        x.function(1, -1, -1, 1);
        x.function(2, -1, -1, 1);
        x.function(3, 2, -1, 8);
        x.drive(0, 5);
        x.drive(2, 4);
        x.output(5);
        x.output(1);
        CHECK.due("11: map()", x.map(), 4);
        CHECK.due("14: INV, NAND, INV", x.period(), 4);
        CHECK.due("15: NAND apart", x.shortest(), 2);
        CHECK.due("16: first INV", x.moves(3), 2);
        CHECK.due("16: INV in a ring of its own", x.moves(4), 1);
        CHECK.due("16: NAND", x.moves(5), 1);
        CHECK.due("16: last INV", x.moves(6), 0);
        CHECK.due("17: last INV to the first", x.latches(3, 0), 0);
        CHECK.due("17: first INV to the NAND", x.latches(5, 1), 65);
        CHECK.due("17: other INV to the NAND", x.latches(5, 0), 65);
        CHECK.due("17: NAND to the last INV", x.latches(6, 0), 65);
        CHECK.due("17: output behind both latches", x.latches(-1, 1), 2 + 64 * 2);
        int[] due = {2, 1, 0, 2, 0, 1, 0, 2, 0};
        for (int cycle = 0; cycle < due.length; cycle++) {
            CHECK.due("18: cycle " + cycle, x.clock(0), due[cycle]);
            CHECK.due("19: cycle " + cycle, x.clockRetimed(0), due[cycle]);
        }
    }

    private static void manyMoves() {
        CellMapper x = Samples.longTail();
        CHECK.due("11: map()", x.map(), 32);
        CHECK.due("14: the tail in a row", x.period(), 31);
        CHECK.due("15: each gate alone", x.shortest(), 1);
        int last = x.nodeOf(18);
        CHECK.due("16: the INV in the ring", x.moves(2), 30);
        CHECK.due("16: the first of the tail", x.moves(x.nodeOf(3)), 30);
        CHECK.due("16: the last but one", x.moves(x.part(last, 1)), 1);
        CHECK.due("16: the last", x.moves(last), 0);
        long row = 0;
        for (int move = 0; move < 30; move++) {
            row = row * 2 + (move % 2 == 0 ? 1 : 0);
        }
        CHECK.due("17: output of the INV", x.latches(-1, 0), 30 + 64 * row);
        CHECK.due("17: output of the last", x.latches(-1, 1), 0);
        for (int cycle = 0; cycle < 70; cycle++) {
            CHECK.due("19: cycle " + cycle, x.clockRetimed(0), x.clock(0));
        }
    }

    private static void latchesOfOutputs() {
        CellMapper x = Samples.withCells(1, 1);
        x.input();
        int[] initial = {1, 0, 0, 1, 1, 0};
        for (int k = 0; k < 6; k++) {
            x.latch(initial[k]);
            x.drive(k + 1, k);
        }
        x.output(6);
        x.output(3);
        x.output(0);
        CHECK.due("11: map()", x.map(), 0);
        CHECK.due("17: six", x.latches(-1, 0), 6 + 64 * (1 + 8 + 16));
        CHECK.due("17: three", x.latches(-1, 1), 3 + 64);
        CHECK.due("17: none", x.latches(-1, 2), 0);
        CHECK.due("17: no such output", x.latches(-1, 3), -1);
        CHECK.due("17: output below", x.latches(-1, -1), -1);
        x.clockRetimed(1);
        x.clockRetimed(0);
        CHECK.due("17: six behind cycles", x.latches(-1, 0), 6 + 64 * (1 + 8 + 16));
    }

    /** The value of a moved latch is that of the pattern: NAND(p, q) for all initial values. */
    private static void latchValues() {
        for (int values = 0; values < 4; values++) {
            CellMapper x = Samples.withCells(1, 2);
            x.input();
            x.input();
            x.latch(values & 1);
            x.latch(values >> 1);
            x.drive(2, 0);
            x.drive(3, 1);
            x.function(2, 3, -1, 8);
            x.output(4);
            CHECK.due("11: map()", x.map(), 2);
            CHECK.due("16: NAND", x.moves(4), 1);
            CHECK.due("17: value " + values, x.latches(5, 0), values == 3 ? 1 : 65);
        }
    }

    /** A latch that nothing uses: its driver is a gate, and a move there puts no latch anywhere. */
    private static void gateOfNoUse() {
        CellMapper x = Samples.withCells(4, 2);
        x.input();
        x.latch(1);
        x.latch(1);
        x.drive(1, 0);
        x.function(1, -1, -1, 1);
        x.drive(2, 3);
        CHECK.due("11: INV", x.map(), 1);
        CHECK.due("14: period", x.period(), 4);
        CHECK.due("16: moves", x.moves(3), 0);
        CHECK.due("17: latches", x.latches(3, 0), 65);
    }

    private static void noSuchPins() {
        CellMapper x = Samples.withCells(1, 1);
        x.input();
        x.input();
        x.function(0, 1, -1, 8);
        x.output(2);
        x.map();
        int[][] wrong = {{3, 1}, {3, -1}, {2, 2}, {2, -1}, {0, 0}, {4, 0}, {-2, 0}, {-1, 1}, {2, Integer.MAX_VALUE},
            {Integer.MIN_VALUE, 0}, {Integer.MAX_VALUE, 0}};
        for (int[] call : wrong) {
            CHECK.due("17: latches(" + call[0] + ", " + call[1] + ")", x.latches(call[0], call[1]), -1);
        }
        CHECK.due("16: moves of an input", x.moves(0), -1);
        CHECK.due("16: moves of no node", x.moves(4), -1);
        CHECK.due("16: moves(-1)", x.moves(-1), -1);
        CHECK.due("16: moves far off", x.moves(Integer.MIN_VALUE), -1);
        CHECK.due("16: moves of a gate", x.moves(3), 0);
    }
}
