/** The sentences of promises 18 to 20 and on clocking, each with a test of its own at its edges. */
public final class EdgeClockTest {
    private static final Check CHECK = new Check();

    public static void main(String[] args) {
        inputsInTheirOrder();
        higherBits();
        outputsAtTheirBits();
        noInputsAndNoOutputs();
        undriven();
        unmapped();
        initialValuesAtFirst();
        againBehindAdditions();
        againBehindReset();
        allLatchesAtOnce();
        eachTakesTheOneBeforeIt();
        independent();
        resetOfTheGivenCircuit();
        resetOfTheRetimedCircuit();
        resetChangesNothingElse();
        CHECK.finish();
    }

    /** Six inputs with other nets between them; outputs are those with these numbers. */
    private static CellMapper sixInputs(int... outputs) {
        CellMapper x = Samples.withCells();
        for (int k = 0; k < 6; k++) {
            x.input();
            x.function(2 * k, -1, -1, 1);
        }
        for (int k : outputs) {
            x.output(2 * k);
        }
        x.map();
        return x;
    }

    private static void inputsInTheirOrder() {
        CHECK.sentence("18: input k (inputs are counted from 0 in the order in which they were made) at bit k of inputs");
        for (int k = 0; k < 6; k++) {
            CellMapper x = sixInputs(k);
            for (int bit = 0; bit < 6; bit++) {
                CHECK.due("input " + k + ", bit " + bit, x.clock(1 << bit), k == bit ? 1 : 0);
                CHECK.due("retimed, input " + k + ", bit " + bit, x.clockRetimed(1 << bit), k == bit ? 1 : 0);
                CHECK.due("input " + k + ", all but " + bit, x.clock(63 - (1 << bit)), k == bit ? 0 : 1);
                CHECK.due("retimed, input " + k + ", all but " + bit, x.clockRetimed(63 - (1 << bit)), k == bit ? 0 : 1);
            }
        }
    }

    private static void higherBits() {
        CHECK.sentence("18: higher bits are not looked at.");
        CellMapper x = sixInputs(0, 1, 4, 5);
        for (int bit = 6; bit < 32; bit++) {
            CHECK.due("bit " + bit + " alone", x.clock(1 << bit), 0);
            CHECK.due("retimed, bit " + bit + " alone", x.clockRetimed(1 << bit), 0);
            CHECK.due("bit " + bit + " and input 5", x.clock(1 << bit | 32), 8);
            CHECK.due("retimed, bit " + bit + " and input 5", x.clockRetimed(1 << bit | 32), 8);
        }
        CHECK.due("all bits", x.clock(-1), 15);
        CHECK.due("all but those of the inputs", x.clock(-64), 0);
        CHECK.due("retimed, all bits", x.clockRetimed(-1), 15);
        CHECK.due("retimed, all but those of the inputs", x.clockRetimed(-64), 0);
        CHECK.due("the least number", x.clock(Samples.LEAST), 0);
        CHECK.due("the greatest number", x.clock(Samples.GREATEST), 15);
        CellMapper y = Samples.withInputs(1);
        y.output(0);
        CHECK.due("one input, bit 1", y.clock(2), 0);
        CHECK.due("one input, bit 0", y.clock(-1), 1);
    }

    private static void outputsAtTheirBits() {
        CHECK.sentence("18: Answers the values of the outputs, output k at bit k.");
        CellMapper x = sixInputs(5, 0, 3, 0);
        CHECK.due("input 5", x.clock(32), 1);
        CHECK.due("input 0", x.clock(1), 2 + 8);
        CHECK.due("input 3", x.clock(8), 4);
        CHECK.due("retimed, input 5", x.clockRetimed(32), 1);
        CHECK.due("retimed, input 0", x.clockRetimed(1), 2 + 8);
        CHECK.due("retimed, input 3", x.clockRetimed(8), 4);
        CHECK.due("one that is no output", x.clock(2), 0);
    }

    private static void noInputsAndNoOutputs() {
        CHECK.sentence("18: A cycle of the circuit as it was given");
        CellMapper x = Samples.withCells();
        CHECK.due("of nothing", x.clock(-1), 0);
        x.map();
        CHECK.due("retimed, of nothing", x.clockRetimed(-1), 0);
        x.latch(1);
        x.function(0, -1, -1, 1);
        x.drive(0, 1);
        CHECK.due("without outputs", x.clock(-1), 0);
        x.output(0);
        CHECK.due("without inputs", x.clock(-1), 1);
        CHECK.due("without inputs, next", x.clock(-1), 0);
        CHECK.due("without inputs, next but one", x.clock(0), 1);
    }

    private static void undriven() {
        CHECK.sentence("18: UNDRIVEN when a latch is not driven.");
        for (int missing = 0; missing < 6; missing++) {
            CellMapper x = new CellMapper();
            for (int latch = 0; latch < 6; latch++) {
                x.latch(1);
            }
            x.output(x.input());
            for (int latch = 0; latch < 6; latch++) {
                if (latch != missing) {
                    x.drive(latch, latch);
                }
            }
            CHECK.due("without latch " + missing, x.clock(1), -3);
            CHECK.due("and again", x.clock(0), -3);
            x.drive(missing, missing);
            CHECK.due("with all, though in rings", x.clock(1), 1);
        }
    }

    private static void unmapped() {
        CHECK.sentence("19: A cycle of the retimed circuit, likewise; UNMAPPED.");
        CellMapper x = Samples.withCells();
        Samples.addRow(x, 1);
        x.output(1);
        CHECK.due("before map()", x.clockRetimed(0), -6);
        x.map();
        CHECK.due("behind map()", x.clockRetimed(0), 1);
        x.output(0);
        CHECK.due("behind an addition", x.clockRetimed(0), -6);
        x.latch(0);
        CHECK.due("with a latch that is not driven too", x.clockRetimed(0), -6);
    }

    private static void initialValuesAtFirst() {
        CHECK.sentence("The circuit as it was given has its latches' present values (at first, the initial ones;");
        CellMapper x = Samples.counter();
        x.map();
        int[] due = {2, 3, 0, 1, 2, 3};
        for (int cycle = 0; cycle < due.length; cycle++) {
            CHECK.due("cycle " + cycle, x.clock(0), due[cycle]);
            CHECK.due("retimed, cycle " + cycle, x.clockRetimed(0), due[cycle]);
        }
    }

    private static void againBehindAdditions() {
        CHECK.sentence("again after each such addition");
        CellMapper x = Samples.counter();
        String[] names = {"input", "latch", "drive", "function", "output", "cell"};
        for (int kind = 0; kind < names.length; kind++) {
            x.clock(0);
            CHECK.due("before " + names[kind], x.clock(0) & 3, 3);
            switch (kind) {
                case 0: x.input(); break;
                case 1: x.latch(0); break;
                case 2: x.drive(5, 0); break;
                case 3: x.function(0, -1, -1, 2); break;
                case 4: x.output(0); break;
                default: x.cell(Samples.AND, 1, 1); break;
            }
            if (kind == 1) {
                CHECK.due("the new latch is not driven", x.clock(0), -3);
                x.drive(5, 0);
            }
            CHECK.due("behind " + names[kind], x.clock(0) & 3, 2);
            x.reset();
        }
    }

    private static void againBehindReset() {
        CHECK.sentence("and after reset).");
        for (int cycles = 0; cycles < 5; cycles++) {
            CellMapper x = Samples.counter();
            for (int k = 0; k < cycles; k++) {
                x.clock(0);
            }
            x.reset();
            CHECK.due("behind " + cycles + " cycles", x.clock(0), 2);
            CHECK.due("and on", x.clock(0), 3);
        }
    }

    private static void allLatchesAtOnce() {
        CHECK.sentence("then each latch takes the value of the net that drives it.");
        CellMapper x = new CellMapper();
        int[] initial = {1, 0, 0, 0, 0, 0};
        for (int latch = 0; latch < 6; latch++) {
            x.latch(initial[latch]);
        }
        for (int latch = 0; latch < 6; latch++) {
            x.drive(latch, (latch + 1) % 6);
        }
        x.output(0);
        x.output(5);
        x.output(1);
        int[] due = {1, 2, 0, 0, 0, 4, 1, 2};
        for (int cycle = 0; cycle < due.length; cycle++) {
            CHECK.due("round a ring, cycle " + cycle, x.clock(0), due[cycle]);
        }
    }

    private static void eachTakesTheOneBeforeIt() {
        CHECK.sentence("each takes the value of the one before it, the first one that of the source.");
        CellMapper x = Samples.withCells();
        Samples.addRow(x, 0, 1, 1, 0, 1, 0);
        x.output(6);
        x.output(0);
        x.map();
        int[] due = {0, 1, 0, 1, 1, 0};
        for (int cycle = 0; cycle < 12; cycle++) {
            int bit = cycle % 3 == 0 ? 1 : 0;
            int want = cycle < 6 ? due[cycle] : (cycle - 6) % 3 == 0 ? 1 : 0;
            CHECK.due("cycle " + cycle, x.clockRetimed(bit), want + 2 * bit);
        }
    }

    private static void independent() {
        CHECK.sentence("The two are clocked independently.");
        CellMapper x = Samples.counter();
        x.map();
        CHECK.due("given", x.clock(0), 2);
        CHECK.due("given", x.clock(0), 3);
        CHECK.due("given", x.clock(0), 0);
        CHECK.due("retimed", x.clockRetimed(0), 2);
        CHECK.due("retimed", x.clockRetimed(0), 3);
        CHECK.due("given", x.clock(0), 1);
        CHECK.due("retimed", x.clockRetimed(0), 0);
        x.map();
        CHECK.due("given goes on behind map()", x.clock(0), 2);
        CHECK.due("retimed does not", x.clockRetimed(0), 2);
    }

    private static void resetOfTheGivenCircuit() {
        CHECK.sentence("20: All latches of the circuit as it was given .. have their initial values again.");
        CellMapper x = new CellMapper();
        Samples.addRow(x, 1, 0, 1, 1, 0, 1);
        for (int net = 3; net <= 6; net++) {
            x.output(net);
        }
        x.reset();
        CHECK.due("before any cycle", x.clock(0), 1 + 2 + 8);
        x.clock(1);
        x.clock(1);
        x.reset();
        CHECK.due("behind cycles", x.clock(0), 1 + 2 + 8);
        CHECK.due("the next one shows the latches before", x.clock(0), 2 + 4);
    }

    private static void resetOfTheRetimedCircuit() {
        CHECK.sentence("20: and of the retimed one, if it is mapped");
        CellMapper x = Samples.withCells(2, 3);
        Samples.addRow(x, 0, 1);
        x.output(x.function(2, 1, -1, 8));
        x.output(2);
        x.map();
        int[] due = new int[6];
        for (int cycle = 0; cycle < 6; cycle++) {
            due[cycle] = x.clock(cycle % 3 == 0 ? 0 : 1);
        }
        CHECK.due("a latch was moved", x.moves(3), 1);
        for (int cycles = 0; cycles < 5; cycles++) {
            x.reset();
            for (int cycle = 0; cycle < 6; cycle++) {
                CHECK.due("cycle " + cycle, x.clockRetimed(cycle % 3 == 0 ? 0 : 1), due[cycle]);
            }
        }
    }

    private static void resetChangesNothingElse() {
        CHECK.sentence("20: if it is mapped");
        CellMapper x = Samples.counter();
        x.reset();
        CHECK.due("not mapped by reset()", x.clockRetimed(0), -6);
        CHECK.due("map()", x.map() > 0, true);
        int area = x.area();
        int nodes = x.nodes();
        x.reset();
        CHECK.due("mapped still", x.area(), area);
        CHECK.due("nodes()", x.nodes(), nodes);
        CHECK.due("driven still", x.clock(0), 2);
        CellMapper y = new CellMapper();
        y.latch(1);
        y.reset();
        CHECK.due("not driven still", y.clock(0), -3);
    }
}
