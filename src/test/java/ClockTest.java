/** Promises 18 to 20: the cycles of both circuits, and reset. */
public final class ClockTest {
    private static final Check CHECK = new Check();

    public static void main(String[] args) {
        tables();
        higherBits();
        undriven();
        latchesShiftTogether();
        independence();
        additionsRestart();
        refusalsDoNotRestart();
        mapRestartsTheRetimedOne();
        resets();
        retimedTables();
        CHECK.finish();
    }

    /** Every table of three nets, by the rule of its bits. */
    private static void tables() {
        for (int table = 1; table < 255; table++) {
            CellMapper x = Samples.withCells();
            x.input();
            x.input();
            x.input();
            x.output(x.function(0, 1, 2, table));
            x.map();
            for (int inputs = 0; inputs < 8; inputs++) {
                CHECK.due("18: table " + table, x.clock(inputs), (table >> inputs) & 1);
                CHECK.due("19: table " + table, x.clockRetimed(inputs), (table >> inputs) & 1);
            }
        }
    }

    private static void higherBits() {
        CellMapper x = Samples.withCells();
        x.latch(0);
        x.input();
        x.function(1, -1, -1, 1);
        x.input();
        x.drive(0, 1);
        x.output(1);
        x.output(3);
        x.output(2);
        x.map();
        CHECK.due("18: inputs by order", x.clock(2), 6);
        CHECK.due("18: all bits", x.clock(-1), 3);
        CHECK.due("18: higher bits alone", x.clock(-4), 4);
        CHECK.due("19: inputs by order", x.clockRetimed(2), 6);
        CHECK.due("19: all bits", x.clockRetimed(-1), 3);
        CHECK.due("19: higher bits alone", x.clockRetimed(-4), 4);
    }

    private static void undriven() {
        CellMapper x = Samples.withCells();
        x.input();
        x.output(0);
        CHECK.due("18: without latches", x.clock(1), 1);
        x.latch(0);
        CHECK.due("18: latch aside, not driven", x.clock(1), -3);
        x.drive(1, 0);
        CHECK.due("18: driven", x.clock(1), 1);
        CHECK.due("19: not mapped", x.clockRetimed(1), -6);
    }

    private static CellMapper exchange() {
        CellMapper x = Samples.withCells();
        x.latch(1);
        x.latch(0);
        x.drive(0, 1);
        x.drive(1, 0);
        x.output(0);
        x.output(1);
        return x;
    }

    private static void latchesShiftTogether() {
        CellMapper x = exchange();
        CHECK.due("18: at first", x.clock(0), 1);
        CHECK.due("18: exchanged", x.clock(0), 2);
        CHECK.due("18: back", x.clock(0), 1);
    }

    private static void independence() {
        CellMapper x = Samples.counter();
        x.map();
        int[] due = {2, 3, 0, 1, 2, 3};
        for (int cycle = 0; cycle < 3; cycle++) {
            CHECK.due("18: given " + cycle, x.clock(0), due[cycle]);
        }
        for (int cycle = 0; cycle < 6; cycle++) {
            CHECK.due("19: retimed " + cycle, x.clockRetimed(0), due[cycle]);
        }
        CHECK.due("18: given goes on", x.clock(0), 1);
    }

    private static void additionsRestart() {
        for (int addition = 0; addition < 6; addition++) {
            CellMapper x = Samples.counter();
            x.clock(0);
            x.clock(0);
            switch (addition) {
                case 0: x.input(); break;
                case 1: x.latch(0); x.drive(4, 0); break;
                case 2: x.function(0, -1, -1, 2); break;
                case 3: x.drive(0, 2); break;
                case 4: x.output(0); break;
                default: x.cell(Samples.AND, 1, 1); break;
            }
            CHECK.due("18: again from the start behind addition " + addition, x.clock(0) & 3, 2);
        }
    }

    private static void refusalsDoNotRestart() {
        CellMapper x = Samples.counter();
        x.map();
        x.clock(0);
        x.clockRetimed(0);
        x.latch(5);
        x.function(9, 0, 0, 3);
        x.drive(2, 0);
        x.output(9);
        x.cell(7, 1, 1);
        CHECK.due("18: goes on behind refusals", x.clock(0), 3);
        CHECK.due("19: goes on behind refusals", x.clockRetimed(0), 3);
    }

    private static void mapRestartsTheRetimedOne() {
        CellMapper x = Samples.counter();
        x.map();
        x.clock(0);
        x.clockRetimed(0);
        x.map();
        CHECK.due("11: the given one goes on", x.clock(0), 3);
        CHECK.due("11: the retimed one starts again", x.clockRetimed(0), 2);
    }

    private static void resets() {
        CellMapper x = Samples.counter();
        x.clock(0);
        x.reset();
        CHECK.due("20: given, not mapped", x.clock(0), 2);
        CHECK.due("20: not mapped by it", x.clockRetimed(0), -6);
        x.map();
        x.clock(0);
        x.clockRetimed(0);
        x.clockRetimed(0);
        x.reset();
        CHECK.due("20: given", x.clock(0), 2);
        CHECK.due("20: retimed", x.clockRetimed(0), 2);
        CHECK.due("20: still mapped", x.clockRetimed(0), 3);
        CHECK.due("20: latches stay driven", x.clock(0), 3);
    }

    /** Latches before a function of three nets, of several cells: both circuits show the same. */
    private static void retimedTables() {
        for (int table = 1; table < 255; table++) {
            CellMapper x = Samples.withCells();
            x.cell(Samples.AND, 2, 2);
            x.cell(Samples.OR, 2, 1);
            x.cell(Samples.pattern("3311311"), 3, 2);
            x.input();
            for (int latch = 1; latch <= 6; latch++) {
                x.latch((table >> latch) & 1);
                x.drive(latch, latch - 1);
            }
            x.output(x.function(6, 4, 5, table));
            x.map();
            CHECK.due("15: never longer, table " + table, x.shortest() <= x.period(), true);
            int inputs = 0x5A37C9;
            for (int cycle = 0; cycle < 24; cycle++) {
                CHECK.due("19: table " + table + " cycle " + cycle, x.clockRetimed(inputs), x.clock(inputs));
                inputs >>= 1;
            }
        }
    }
}
