/** Promises 11 to 13: mapping, its refusals, area and the cells of the gates. */
public final class MapTest {
    private static final int INV = Samples.INV;
    private static final int NAND = Samples.NAND;
    private static final int AND = Samples.AND;
    private static final int OR = Samples.OR;
    private static final int NAND_INV_PIN = Samples.pattern("3211");
    private static final int NAND_PIN_INV = Samples.pattern("3121");
    private static final int NAND_NAND_PIN = Samples.pattern("33111");
    private static final Check CHECK = new Check();

    public static void main(String[] args) {
        refusals();
        ringThroughFunction();
        ringOfOne();
        ringAsideOfOutputs();
        additionsEndTheMapping();
        refusalsKeepTheMapping();
        emptyCircuit();
        deadNodesHaveNoGates();
        leastArea();
        lowestNumberAmongLikeCells();
        dearCellsAreLeftAlone();
        rootsAreNotCovered();
        outputNodesAreRoots();
        latchDriversAreRoots();
        leftmostNandNotSwapped();
        swappedWhenCheaper();
        secondNandNotSwapped();
        leftmostNandCountsFirst();
        parityOfThree();
        CHECK.finish();
    }

    /** Among cells of like cost the one that reaches over two nodes has the lowest number. */
    private static CellMapper andFirst() {
        CellMapper x = new CellMapper();
        x.cell(AND, 1, 1);
        x.cell(INV, 1, 1);
        x.cell(NAND, 2, 1);
        return x;
    }

    private static void refusals() {
        CellMapper x = new CellMapper();
        x.latch(0);
        x.latch(1);
        x.latch(0);
        x.drive(0, 1);
        x.drive(1, 0);
        CHECK.due("11: undriven first", x.map(), -3);
        x.drive(2, 0);
        CHECK.due("11: ring next", x.map(), -4);
        x.input();
        x.drive(1, 3);
        CHECK.due("11: library last", x.map(), -5);
        CHECK.due("11: not mapped", x.area(), -6);
        x.cell(AND, 1, 1);
        x.cell(NAND, 1, 1);
        CHECK.due("11: NAND alone", x.map(), -5);
        x.cell(Samples.pattern("221"), 1, 1);
        CHECK.due("11: INV(INV(pin)) is not INV(pin)", x.map(), -5);
        x.cell(INV, 1, 1);
        CHECK.due("11: both", x.map(), 0);
        CHECK.due("12: no gates", x.area(), 0);
        CellMapper y = new CellMapper();
        y.cell(INV, 1, 1);
        y.cell(NAND_INV_PIN, 1, 1);
        CHECK.due("11: INV alone", y.map(), -5);
    }

    private static void ringThroughFunction() {
        CellMapper x = Samples.withCells();
        x.latch(0);
        x.function(0, -1, -1, 2);
        x.drive(0, 1);
        CHECK.due("11: ring through a net at the same node", x.map(), -4);
        x.function(0, -1, -1, 1);
        x.drive(0, 2);
        CHECK.due("11: ring with a gate in it", x.map(), 1);
    }

    private static void ringOfOne() {
        CellMapper x = Samples.withCells();
        x.latch(1);
        x.drive(0, 0);
        CHECK.due("11: latch by itself", x.map(), -4);
        CHECK.due("18: it is clocked all the same", x.clock(0), 0);
    }

    private static void ringAsideOfOutputs() {
        CellMapper x = Samples.withCells();
        x.input();
        for (int latch = 0; latch < 6; latch++) {
            x.latch(0);
        }
        for (int latch = 1; latch <= 6; latch++) {
            x.drive(latch, latch - 1);
        }
        x.output(0);
        CHECK.due("11: six in a row", x.map(), 0);
        x.drive(1, 6);
        CHECK.due("11: six in a ring, no output at them", x.map(), -4);
        x.drive(3, 0);
        CHECK.due("11: ring cut in the middle", x.map(), 0);
    }

    private static CellMapper mappedOne() {
        CellMapper x = Samples.withCells();
        x.input();
        x.latch(1);
        x.function(0, -1, -1, 1);
        x.drive(1, 2);
        x.output(1);
        CHECK.due("11: map()", x.map(), 1);
        return x;
    }

    private static void additionsEndTheMapping() {
        for (int addition = 0; addition < 6; addition++) {
            CellMapper x = mappedOne();
            switch (addition) {
                case 0: x.input(); break;
                case 1: x.latch(0); break;
                case 2: x.function(0, -1, -1, 2); break;
                case 3: x.drive(1, 2); break;
                case 4: x.output(0); break;
                default: x.cell(AND, 1, 1); break;
            }
            String name = "11: behind addition " + addition + " ";
            CHECK.due(name + "area()", x.area(), -6);
            CHECK.due(name + "cellAt", x.cellAt(2), -6);
            CHECK.due(name + "cellAt of no node", x.cellAt(-5), -6);
            CHECK.due(name + "period()", x.period(), -6);
            CHECK.due(name + "shortest()", x.shortest(), -6);
            CHECK.due(name + "moves", x.moves(2), -6);
            CHECK.due(name + "moves of no node", x.moves(99), -6);
            CHECK.due(name + "latches", x.latches(2, 0), -6);
            CHECK.due(name + "latches of no pin", x.latches(2, 9), -6);
            CHECK.due(name + "clockRetimed", x.clockRetimed(0), -6);
            CHECK.due(name + "map()", x.map(), addition == 1 ? -3 : 1);
            CHECK.due(name + "area() then", x.area(), addition == 1 ? -6 : 1);
        }
    }

    private static void refusalsKeepTheMapping() {
        CellMapper x = mappedOne();
        x.latch(2);
        x.function(0, -1, -1, 0);
        x.drive(0, 0);
        x.output(-1);
        x.cell(1, 1, 1);
        x.reset();
        x.clock(1);
        CHECK.due("11: mapped behind refusals", x.area(), 1);
        CHECK.due("13: cellAt(2)", x.cellAt(2), 0);
        CHECK.due("11: map() again", x.map(), 1);
        CHECK.due("12: area() again", x.area(), 1);
    }

    private static void emptyCircuit() {
        CellMapper x = Samples.withCells();
        CHECK.due("11: nothing to map", x.map(), 0);
        CHECK.due("12: area of nothing", x.area(), 0);
        CHECK.due("13: cellAt(0) of nothing", x.cellAt(0), -1);
        CHECK.due("14: period of nothing", x.period(), 0);
        CHECK.due("15: shortest of nothing", x.shortest(), 0);
        CHECK.due("19: cycle of nothing", x.clockRetimed(-1), 0);
    }

    private static void deadNodesHaveNoGates() {
        CellMapper x = Samples.withCells();
        x.input();
        x.input();
        x.function(0, 1, -1, 7);
        CHECK.due("11: without outputs", x.map(), 0);
        x.output(2);
        CHECK.due("11: with the NAND alone", x.map(), 1);
        CHECK.due("13: the unused INV", x.cellAt(2), -1);
        CHECK.due("13: the NAND", x.cellAt(3), 1);
        CHECK.due("13: an input", x.cellAt(0), -1);
        CHECK.due("13: no node", x.cellAt(4), -1);
        CHECK.due("13: below", x.cellAt(-1), -1);
        CHECK.due("13: far off", x.cellAt(Integer.MAX_VALUE), -1);
    }

    private static void leastArea() {
        CellMapper x = Samples.withCells();
        x.cell(AND, 2, 5);
        x.cell(OR, 3, 5);
        x.input();
        x.input();
        x.function(0, 1, -1, 8);
        x.function(0, 1, -1, 14);
        x.output(2);
        x.output(3);
        CHECK.due("11: AND and OR", x.map(), 2);
        CHECK.due("12: their area", x.area(), 5);
        CHECK.due("13: AND", x.cellAt(3), 2);
        CHECK.due("13: inside of AND", x.cellAt(2), -1);
        CHECK.due("13: OR", x.cellAt(6), 3);
    }

    private static void lowestNumberAmongLikeCells() {
        CellMapper x = new CellMapper();
        x.cell(AND, 3, 9);
        x.cell(INV, 1, 1);
        x.cell(INV, 1, 0);
        x.cell(NAND, 2, 1);
        x.input();
        x.input();
        x.function(0, 1, -1, 8);
        x.output(2);
        CHECK.due("11: like cost", x.map(), 1);
        CHECK.due("13: lowest number", x.cellAt(3), 0);
        CHECK.due("12: area", x.area(), 3);
        x.cell(NAND, 1, 1);
        CHECK.due("11: cheaper apart", x.map(), 2);
        CHECK.due("13: lowest INV", x.cellAt(3), 1);
        CHECK.due("13: cheaper NAND", x.cellAt(2), 4);
        CHECK.due("12: area apart", x.area(), 2);
    }

    private static void dearCellsAreLeftAlone() {
        CellMapper x = Samples.withCells();
        x.cell(AND, 4, 0);
        x.input();
        x.input();
        x.function(0, 1, -1, 8);
        x.output(2);
        CHECK.due("11: dear AND", x.map(), 2);
        CHECK.due("12: area without it", x.area(), 3);
    }

    private static void rootsAreNotCovered() {
        CellMapper x = andFirst();
        x.input();
        x.input();
        x.input();
        x.function(0, 1, -1, 8);
        x.function(2, 3, -1, 7);
        x.output(4);
        CHECK.due("11: one use", x.map(), 2);
        CHECK.due("13: AND below a NAND", x.cellAt(4), 0);
        x.function(0, 1, -1, 7);
        x.function(5, 2, -1, 8);
        x.output(6);
        CHECK.due("11: NAND used twice", x.map(), 4);
        CHECK.due("13: the shared NAND", x.cellAt(3), 2);
        CHECK.due("13: the INV on it", x.cellAt(4), 1);
    }

    private static void outputNodesAreRoots() {
        CellMapper x = andFirst();
        x.input();
        x.input();
        x.function(0, 1, -1, 8);
        x.function(2, -1, -1, 1);
        x.output(2);
        CHECK.due("11: AND", x.map(), 1);
        x.output(3);
        CHECK.due("11: its NAND is an output", x.map(), 2);
        CHECK.due("13: INV", x.cellAt(3), 1);
        CHECK.due("13: NAND", x.cellAt(2), 2);
    }

    private static void latchDriversAreRoots() {
        CellMapper x = andFirst();
        x.input();
        x.input();
        x.latch(0);
        x.function(0, 1, -1, 8);
        x.function(3, -1, -1, 1);
        x.drive(2, 3);
        CHECK.due("11: AND into a latch of no use", x.map(), 1);
        CHECK.due("13: AND", x.cellAt(4), 0);
        x.latch(0);
        x.drive(5, 4);
        CHECK.due("11: its NAND into a latch", x.map(), 2);
        CHECK.due("12: area", x.area(), 3);
        CHECK.due("13: INV", x.cellAt(4), 1);
    }

    /** NAND(INV(a), INV(b)) under NAND(INV(pin), pin): which INV is inside shows where the pins lie. */
    private static void leftmostNandNotSwapped() {
        CellMapper x = Samples.withCells();
        x.cell(NAND_INV_PIN, 2, 1);
        x.input();
        x.latch(1);
        x.drive(1, 0);
        x.function(1, 0, -1, 14);
        x.output(2);
        CHECK.due("11: either way", x.map(), 2);
        CHECK.due("10: x of the NAND", x.part(4, 0), 2);
        CHECK.due("10: x of its x", x.part(2, 0), 0);
        CHECK.due("13: NAND", x.cellAt(4), 2);
        CHECK.due("13: its x is inside", x.cellAt(2), -1);
        CHECK.due("13: its y is a gate", x.cellAt(3), 0);
        CHECK.due("17: pin 0 on the input", x.latches(4, 0), 0);
        CHECK.due("17: pin 1 on the INV, the latch moved through it", x.latches(4, 1), 1);
        CHECK.due("17: the INV's pin", x.latches(3, 0), 0);
    }

    private static void swappedWhenCheaper() {
        CellMapper x = Samples.withCells();
        x.cell(NAND_INV_PIN, 2, 1);
        x.input();
        x.latch(1);
        x.drive(1, 0);
        x.function(1, 0, -1, 14);
        x.output(2);
        x.function(0, -1, -1, 1);
        x.output(3);
        CHECK.due("11: one way alone", x.map(), 2);
        CHECK.due("13: NAND", x.cellAt(4), 2);
        CHECK.due("13: its x is a root", x.cellAt(2), 0);
        CHECK.due("13: its y is inside", x.cellAt(3), -1);
        CHECK.due("17: pin 0 on the latch", x.latches(4, 0), 65);
        CHECK.due("17: pin 1 on the root", x.latches(4, 1), 0);
        x.cell(NAND_PIN_INV, 2, 1);
        CHECK.due("11: NAND(pin, INV(pin)) is behind in number", x.map(), 2);
        CHECK.due("13: lower number before not swapped", x.cellAt(4), 2);
    }

    /** NAND(NAND(pin, pin), pin) over latches of three lengths: the pins show each swap. */
    private static void secondNandNotSwapped() {
        CellMapper x = Samples.withCells();
        x.cell(NAND_NAND_PIN, 1, 9);
        x.input();
        x.latch(0);
        x.latch(0);
        x.drive(1, 0);
        x.drive(2, 1);
        x.function(2, 1, -1, 7);
        x.function(0, 3, -1, 7);
        x.output(4);
        CHECK.due("11: NAND of NAND", x.map(), 1);
        int top = x.nodeOf(4);
        CHECK.due("10: x is the input", x.part(top, 0), 0);
        CHECK.due("13: the one cell", x.cellAt(top), 2);
        CHECK.due("17: pin 0, not swapped in the second", x.latches(top, 0), 1);
        CHECK.due("17: pin 1", x.latches(top, 1), 2);
        CHECK.due("17: pin 2, the first is swapped", x.latches(top, 2), 0);
        CHECK.due("17: no pin 3", x.latches(top, 3), -1);
    }

    /**
     * NAND(NAND(INV(pin), pin), pin) on NAND(NAND(p, INV(q)), NAND(INV(r), s)): one of its two NANDs must be
     * swapped, and it is the second.
     */
    private static void leftmostNandCountsFirst() {
        CellMapper x = Samples.withCells();
        x.cell(Samples.pattern("332111"), 1, 1);
        x.input();
        x.input();
        x.input();
        x.function(1, 0, -1, 11);
        x.function(2, -1, -1, 1);
        x.input();
        x.function(2, 5, -1, 11);
        x.function(3, 6, -1, 7);
        x.output(7);
        CHECK.due("10: x of the top", x.part(9, 0), 4);
        CHECK.due("10: y of the top", x.part(9, 1), 7);
        CHECK.due("10: INV is the second of x", x.part(4, 1), 3);
        CHECK.due("10: INV is the first of y", x.part(7, 0), 5);
        CHECK.due("11: map()", x.map(), 3);
        CHECK.due("12: area()", x.area(), 4);
        CHECK.due("13: the top", x.cellAt(9), 2);
        CHECK.due("13: x is inside", x.cellAt(4), -1);
        CHECK.due("13: INV of x is inside", x.cellAt(3), -1);
        CHECK.due("13: y is a gate", x.cellAt(7), 1);
        CHECK.due("13: INV of y is a gate", x.cellAt(5), 0);
    }

    private static void parityOfThree() {
        CellMapper x = Samples.withCells();
        x.input();
        x.input();
        x.input();
        x.function(0, 1, 2, 150);
        x.output(3);
        CHECK.due("11: parity of three", x.map(), 12);
        CHECK.due("12: its area", x.area(), 3 + 9 * 2);
        CHECK.due("14: its period", x.period(), 5);
    }
}
