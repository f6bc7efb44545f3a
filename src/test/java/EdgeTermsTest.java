/** The sentences at the top of the document and under 'Terms' that name an edge, each with a test of its own. */
public final class EdgeTermsTest {
    private static final Check CHECK = new Check();

    public static void main(String[] args) {
        fiveHundredAndTwelveCalls();
        fortyNets();
        sixInputs();
        sixLatches();
        initialValues();
        drivenOrNotYet();
        netsThatWereThereBefore();
        fourOutputs();
        fortyEightNodes();
        nodesOfTheirOwn();
        invOfInv();
        nandOfOneNode();
        smallerOneFirst();
        tableOfOneNet();
        tableOfTwoNets();
        tableOfThreeNets();
        likeHalves();
        constantHalves();
        lowHalfConstant();
        highHalfConstant();
        noHalfConstant();
        orderOfMaking();
        eightCells();
        digits();
        sevenDigits();
        firstDigit();
        pinsFromLeftToRight();
        moreThanOneUser();
        notLaidOverRoots();
        latchesOfConnections();
        noGates();
        timesFromInputsAndLatches();
        eachPinMustHaveOne();
        lastLatchIsTaken();
        fewestAtAllGates();
        CHECK.finish();
    }

    private static void fiveHundredAndTwelveCalls() {
        CHECK.sentence("An object is used for at most 512 calls after it has been made");
        CellMapper x = Samples.withCells();
        x.latch(0);
        x.function(0, -1, -1, 1);
        x.drive(0, 1);
        x.output(0);
        for (int call = 7; call <= 260; call++) {
            CHECK.due("call " + call + ": map()", x.map(), 1);
        }
        for (int call = 261; call <= 511; call += 2) {
            int due = (call - 261) / 2 % 2;
            CHECK.due("call " + call + ": clock(0)", x.clock(0), due);
            CHECK.due("call " + (call + 1) + ": clockRetimed(0)", x.clockRetimed(0), due);
        }
    }

    private static void fortyNets() {
        CHECK.sentence("NETS are numbered 0, 1, .. in the order in which they are made, at most 40.");
        CellMapper x = new CellMapper();
        for (int net = 0; net < 40; net++) {
            int got = net < 3 ? x.input() : net < 6 ? x.latch(0) : x.function(net - 1, -1, -1, 2);
            CHECK.due("net " + net, got, net);
        }
        CHECK.due("nodeOf(39)", x.nodeOf(39), 5);
        CHECK.due("nodeOf(40)", x.nodeOf(40), -1);
        CHECK.due("input() as the 41st", x.input(), -2);
        CHECK.due("latch(0) as the 41st", x.latch(0), -2);
        CHECK.due("function as the 41st", x.function(0, -1, -1, 2), -2);
        CHECK.due("nodeOf(40) behind them", x.nodeOf(40), -1);
    }

    private static void sixInputs() {
        CHECK.sentence("A net is an INPUT (at most 6)");
        CellMapper x = new CellMapper();
        for (int k = 0; k < 6; k++) {
            CHECK.due("input " + k, x.input(), 2 * k);
            CHECK.due("a function between", x.function(0, -1, -1, 1), 2 * k + 1);
        }
        CHECK.due("the seventh", x.input(), -2);
        CHECK.due("a latch is none of them", x.latch(0), 12);
        CHECK.due("and still", x.input(), -2);
    }

    private static void sixLatches() {
        CHECK.sentence("a LATCH (at most 6;");
        CellMapper x = new CellMapper();
        for (int k = 0; k < 6; k++) {
            CHECK.due("latch " + k, x.latch(k % 2), 2 * k);
            CHECK.due("a function between", x.function(0, -1, -1, 2), 2 * k + 1);
        }
        CHECK.due("the seventh", x.latch(0), -2);
        CHECK.due("an input is none of them", x.input(), 12);
        CHECK.due("and still", x.latch(1), -2);
    }

    private static void initialValues() {
        CHECK.sentence("it has an initial value 0 or 1");
        CellMapper x = Samples.withInputs(1);
        for (int k = 0; k < 6; k++) {
            CHECK.due("latch(" + k % 2 + ")", x.latch(k % 2), k + 1);
            x.drive(k + 1, 0);
        }
        for (int k = 0; k < 4; k++) {
            x.output(k + 3);
        }
        CHECK.due("the last four at first", x.clock(0), 5 << 1);
        CHECK.due("and then", x.clock(1), 0);
    }

    private static void drivenOrNotYet() {
        CHECK.sentence("and is DRIVEN by a net, or not yet by any");
        CellMapper x = Samples.withInputs(1);
        CHECK.due("no latch", x.clock(0), 0);
        x.latch(0);
        CHECK.due("not yet by any", x.clock(0), -3);
        x.drive(1, 0);
        CHECK.due("driven by net 0", x.clock(0), 0);
    }

    private static void netsThatWereThereBefore() {
        CHECK.sentence("or a FUNCTION of one to three nets that were there before");
        CellMapper x = Samples.withInputs(1);
        CHECK.due("a is to be its own net", x.function(1, -1, -1, 1), -1);
        CHECK.due("b is to be its own net", x.function(0, 1, -1, 8), -1);
        CHECK.due("c is to be its own net", x.function(0, 0, 1, 128), -1);
        CHECK.due("of no net", x.function(-1, -1, -1, 1), -1);
        CHECK.due("of one net", x.function(0, -1, -1, 1), 1);
        CHECK.due("of two, the last one too", x.function(0, 1, -1, 8), 2);
        CHECK.due("of three, the last one too", x.function(0, 1, 2, 128), 3);
    }

    private static void fourOutputs() {
        CHECK.sentence("OUTPUTS 0, 1, .. are nets (at most 4; a net may be several of them).");
        CellMapper x = Samples.withInputs(2);
        for (int k = 0; k < 4; k++) {
            CHECK.due("output " + k, x.output(1), k);
        }
        CHECK.due("the fifth, of another net", x.output(0), -2);
        CHECK.due("the fifth, of the same net", x.output(1), -2);
        CHECK.due("all four are net 1", x.clock(2), 15);
        CHECK.due("and not net 0", x.clock(1), 0);
    }

    private static void fortyEightNodes() {
        CHECK.sentence("nodes are numbered 0, 1, .. in the order in which they are made, at most 48.");
        CellMapper x = Samples.withThirtyTwoNodes();
        CHECK.due("nodes()", x.nodes(), 32);
        CHECK.due("a function of twelve more", x.function(3, 7, 8, Samples.PARITY), 10);
        CHECK.due("nodes() then", x.nodes(), 44);
        for (int node = 44; node < 48; node++) {
            int net = node % 2 == 0 ? x.input() : x.latch(0);
            CHECK.due("net at node " + node, x.nodeOf(net), node);
        }
        CHECK.due("nodes() in the end", x.nodes(), 48);
        CHECK.due("input() has no room", x.input(), -2);
        CHECK.due("latch(0) has no room", x.latch(0), -2);
        CHECK.due("nodes() behind them", x.nodes(), 48);
    }

    private static void nodesOfTheirOwn() {
        CHECK.sentence("An input or a latch makes a node of its own.");
        CellMapper x = new CellMapper();
        x.input();
        x.input();
        x.latch(0);
        x.latch(0);
        x.drive(2, 0);
        x.drive(3, 0);
        for (int net = 0; net < 4; net++) {
            CHECK.due("nodeOf(" + net + ")", x.nodeOf(net), net);
        }
        CHECK.due("nodes()", x.nodes(), 4);
    }

    private static void invOfInv() {
        CHECK.sentence("inv(x): when x is INV(y), it is y; otherwise the node INV(x), which is made when it is not there.");
        CellMapper x = Samples.withInputs(1);
        int net = 0;
        for (int step = 1; step <= 6; step++) {
            net = x.function(net, -1, -1, 1);
            CHECK.due("node behind " + step, x.nodeOf(net), step % 2);
        }
        CHECK.due("made once", x.nodes(), 2);
        x.function(0, 1, -1, 11);
        CHECK.due("INV of a NAND", x.nodeOf(x.function(7, -1, -1, 1)), x.nodes() - 1);
    }

    private static void nandOfOneNode() {
        CHECK.sentence("nand(x, y): when x = y, it is inv(x)");
        CellMapper x = Samples.withInputs(1);
        CHECK.due("net", x.function(0, 0, -1, 7), 1);
        CHECK.due("nand(0, 0)", x.nodeOf(1), 1);
        CHECK.due("is INV", x.part(1, 1), -1);
        CHECK.due("net", x.function(1, 1, -1, 7), 2);
        CHECK.due("nand of an INV and itself", x.nodeOf(2), 0);
        CHECK.due("nodes()", x.nodes(), 2);
    }

    private static void smallerOneFirst() {
        CHECK.sentence("otherwise the node NAND of these two (the smaller one first), which is made when it is not there.");
        CellMapper x = Samples.withInputs(2);
        x.function(0, 1, -1, 7);
        int node = x.nodeOf(2);
        CHECK.due("x", x.part(node, 0), 0);
        CHECK.due("y", x.part(node, 1), 1);
        int before = x.nodes();
        CHECK.due("the other way round", x.nodeOf(x.function(1, 0, -1, 7)), node);
        CHECK.due("makes the INV of its first net alone", x.nodes(), before + 1);
        CHECK.due("the same again", x.nodeOf(x.function(1, 0, -1, 7)), node);
        CHECK.due("makes nothing", x.nodes(), before + 1);
    }

    /** The value of the function for every value of its nets, at the bit with their number. */
    private static int valuesOf(int nets, int table) {
        CellMapper x = Samples.withInputs(3);
        x.output(x.function(0, nets > 1 ? 1 : -1, nets > 2 ? 2 : -1, table));
        int values = 0;
        for (int inputs = 0; inputs < 1 << nets; inputs++) {
            values |= x.clock(inputs) << inputs;
        }
        return values;
    }

    private static void tableOfOneNet() {
        CHECK.sentence("(with one net, bits 0 and 1;");
        CHECK.due("table 1", valuesOf(1, 1), 1);
        CHECK.due("table 2", valuesOf(1, 2), 2);
        CHECK.due("a bit 2", Samples.withInputs(1).function(0, -1, -1, 4 + 1), -1);
    }

    private static void tableOfTwoNets() {
        CHECK.sentence("with two, bits 0 to 3)");
        for (int table = 1; table < 15; table++) {
            CHECK.due("table " + table, valuesOf(2, table), table);
        }
        CHECK.due("a bit 4", Samples.withInputs(2).function(0, 1, -1, 16 + 6), -1);
    }

    private static void tableOfThreeNets() {
        CHECK.sentence("Its TABLE over the nets a, b, c has at the bit with the number a + 2 b + 4 c the value");
        for (int table = 1; table < 255; table++) {
            CHECK.due("table " + table, valuesOf(3, table), table);
        }
        CHECK.due("a bit 8", Samples.withInputs(3).function(0, 1, 2, 256 + 6), -1);
    }

    /** The nodes that a table over inputs 0, 1, .. makes, and behind '=' its own. */
    private static String made(int nets, int table) {
        CellMapper x = Samples.withInputs(nets);
        int net = x.function(0, nets > 1 ? 1 : -1, nets > 2 ? 2 : -1, table);
        StringBuilder text = new StringBuilder();
        for (int node = nets; node < x.nodes(); node++) {
            int y = x.part(node, 1);
            text.append(y < 0 ? "INV(" : "NAND(").append(x.part(node, 0));
            text.append(y < 0 ? "" : "," + y).append(") ");
        }
        return text.append("= ").append(x.nodeOf(net)).toString();
    }

    private static void likeHalves() {
        CHECK.sentence("when the halves are the same, the node of the low half.");
        CHECK.due("a over two", made(2, 10), "= 0");
        CHECK.due("not a over two", made(2, 5), "INV(0) = 2");
        CHECK.due("a over three", made(3, 0xAA), "= 0");
        CHECK.due("b over three", made(3, 0xCC), "= 1");
        CHECK.due("a and b over three", made(3, 0x88), "NAND(0,1) INV(3) = 4");
    }

    private static void constantHalves() {
        CHECK.sentence("low 0, high 1: z.     low 1, high 0: inv(z).");
        CHECK.due("one net", made(1, 2), "= 0");
        CHECK.due("not, one net", made(1, 1), "INV(0) = 1");
        CHECK.due("two nets", made(2, 12), "= 1");
        CHECK.due("not, two nets", made(2, 3), "INV(1) = 2");
        CHECK.due("three nets", made(3, 0xF0), "= 2");
        CHECK.due("not, three nets", made(3, 0x0F), "INV(2) = 3");
    }

    private static void lowHalfConstant() {
        CHECK.sentence("low 0, high not constant: inv(nand(z, H)).     low 1, high not constant: nand(z, inv(H)).");
        CHECK.due("low 0, high a", made(2, 8), "NAND(0,1) INV(2) = 3");
        CHECK.due("low 0, high not a", made(2, 4), "INV(0) NAND(1,2) INV(3) = 4");
        CHECK.due("low 1, high a", made(2, 11), "INV(0) NAND(1,2) = 3");
        CHECK.due("low 1, high not a", made(2, 7), "INV(0) NAND(0,1) = 3");
        CHECK.due("low 0, high a and b", made(3, 0x80), "NAND(0,1) INV(3) NAND(2,4) INV(5) = 6");
        CHECK.due("low 1, high a and b", made(3, 0x8F), "NAND(0,1) INV(3) NAND(2,3) = 5");
    }

    private static void highHalfConstant() {
        CHECK.sentence("high 0, low not constant: inv(nand(inv(z), L)).     high 1, low not constant: nand(inv(z), inv(L)).");
        CHECK.due("high 0, low a", made(2, 2), "INV(1) NAND(0,2) INV(3) = 4");
        CHECK.due("high 0, low not a", made(2, 1), "INV(0) INV(1) NAND(2,3) INV(4) = 5");
        CHECK.due("high 1, low a", made(2, 14), "INV(1) INV(0) NAND(2,3) = 4");
        CHECK.due("high 1, low not a", made(2, 13), "INV(0) INV(1) NAND(0,3) = 4");
        CHECK.due("high 0, low a and b", made(3, 0x08), "NAND(0,1) INV(3) INV(2) NAND(4,5) INV(6) = 7");
        CHECK.due("high 1, low a and b", made(3, 0xF8), "NAND(0,1) INV(3) INV(2) NAND(3,5) = 6");
    }

    private static void noHalfConstant() {
        CHECK.sentence("Neither is constant: nand(nand(z, H), nand(inv(z), L)).");
        CHECK.due("low a, high not a", made(2, 6), "INV(0) NAND(1,2) INV(1) NAND(0,4) NAND(3,5) = 6");
        CHECK.due("low not a, high a", made(2, 9), "INV(0) NAND(0,1) INV(1) NAND(2,4) NAND(3,5) = 6");
        CHECK.due("low a, high b", made(3, 0xCA), "NAND(1,2) INV(2) NAND(0,4) NAND(3,5) = 6");
        CHECK.due("low b, high a", made(3, 0xAC), "NAND(0,2) INV(2) NAND(1,4) NAND(3,5) = 6");
    }

    private static void orderOfMaking() {
        CHECK.sentence("L is made first, then H, then the nodes of the formula, from left to right and inner ones first.");
        CHECK.due("L is a and b, H is a or b", made(3, 0xE8),
            "NAND(0,1) INV(3) INV(1) INV(0) NAND(5,6) NAND(2,7) INV(2) NAND(4,9) NAND(8,10) = 11");
        CHECK.due("L is a or b, H is a and b", made(3, 0x8E),
            "INV(1) INV(0) NAND(3,4) NAND(0,1) INV(6) NAND(2,7) INV(2) NAND(5,9) NAND(8,10) = 11");
    }

    private static void eightCells() {
        CHECK.sentence("CELLS are numbered 0, 1, .., at most 8.");
        CellMapper x = new CellMapper();
        for (int cell = 0; cell < 8; cell++) {
            CHECK.due("cell " + cell, x.cell(cell % 2 == 0 ? Samples.INV : Samples.NAND, 1, 1), cell);
        }
        CHECK.due("the ninth", x.cell(Samples.AND, 1, 1), -2);
    }

    private static int cell(String digits) {
        return new CellMapper().cell(Samples.pattern(digits), 1, 1);
    }

    private static void digits() {
        CHECK.sentence("are 1 for a PIN, 2 for INV and behind it one pattern, 3 for NAND and behind it two patterns.");
        String[] right = {"21", "311", "221", "2311", "3211", "3121", "32121", "33111", "31311", "222221", "3311311"};
        for (String digits : right) {
            CHECK.due("cell of " + digits, cell(digits), 0);
        }
        String[] tooShort = {"2", "3", "22", "31", "32", "321", "331", "3311", "3131", "222222"};
        for (String digits : tooShort) {
            CHECK.due("cell of " + digits + ", too short", cell(digits), -1);
        }
        String[] tooLong = {"211", "212", "213", "3111", "3112", "2211", "23111", "321212"};
        for (String digits : tooLong) {
            CHECK.due("cell of " + digits + ", too long", cell(digits), -1);
        }
        String[] gaps = {"0", "01", "021", "201", "3101", "3011", "23011", "0311"};
        for (String digits : gaps) {
            CHECK.due("cell of " + digits + ", with a gap", cell(digits), -1);
        }
    }

    private static void sevenDigits() {
        CHECK.sentence("There are at most 7 digits, up to the highest that is not 0");
        CHECK.due("seven", cell("2222221"), 0);
        CHECK.due("seven with four pins", cell("3311311"), 0);
        CHECK.due("six and 0 behind", cell("2222210"), 0);
        CHECK.due("eight", cell("22222221"), -1);
        CHECK.due("eight with four pins", cell("33113211"), -1);
        CHECK.due("nine", cell("333113111"), -1);
        CHECK.due("two, and one far behind", cell("210000000000001"), -1);
        CHECK.due("two, and the highest bit", new CellMapper().cell(Samples.LEAST + Samples.INV, 1, 1), -1);
        CHECK.due("below 0", new CellMapper().cell(-Samples.INV, 1, 1), -1);
        CHECK.due("none", new CellMapper().cell(0, 1, 1), -1);
    }

    private static void firstDigit() {
        CHECK.sentence("and the first is not 1.");
        CHECK.due("a pin alone", cell("1"), -1);
        CHECK.due("a pin and INV behind it", cell("121"), -1);
        CHECK.due("a pin and NAND behind it", cell("1311"), -1);
    }

    private static void pinsFromLeftToRight() {
        CHECK.sentence("Pins are numbered 0, 1, .. from left to right.");
        CellMapper x = Samples.withCells();
        x.cell(Samples.pattern("3311311"), 1, 1);
        Samples.addRow(x, 0, 0, 0);
        x.function(0, 1, -1, 7);
        x.function(2, 3, -1, 7);
        x.function(4, 5, -1, 7);
        x.output(6);
        int node = x.nodeOf(6);
        CHECK.due("map()", x.map(), 1);
        for (int pin = 0; pin < 4; pin++) {
            CHECK.due("latches of pin " + pin, x.latches(node, pin), pin);
        }
        CHECK.due("no pin 4", x.latches(node, 4), -1);
    }

    /** INV(NAND(a, b)) at nodes 4 and 3, and NAND(c, node 3) as another user of node 3. */
    private static CellMapper twoUsers() {
        CellMapper x = new CellMapper();
        x.cell(Samples.AND, 1, 1);
        x.cell(Samples.INV, 1, 1);
        x.cell(Samples.NAND, 2, 1);
        Samples.addInputs(x, 3);
        x.function(0, 1, -1, 8);
        x.function(3, -1, -1, 1);
        x.function(4, 2, -1, 7);
        x.output(3);
        return x;
    }

    private static void moreThanOneUser() {
        CHECK.sentence("or is an x or y of more than one live node.");
        CellMapper x = twoUsers();
        CHECK.due("another user is there", x.part(x.nodeOf(5), 1), 3);
        CHECK.due("but not live", x.map(), 1);
        CHECK.due("so node 3 is no root", x.cellAt(3), -1);
        CHECK.due("and AND lies over it", x.cellAt(4), 0);
        x.output(5);
        CHECK.due("now it is live", x.map(), 3);
        CHECK.due("and node 3 a root", x.cellAt(3), 2);
        CHECK.due("with INV behind it", x.cellAt(4), 1);
    }

    private static void notLaidOverRoots() {
        CHECK.sentence("but no INV or NAND of a pattern other than its first digit is laid on a root.");
        CellMapper x = twoUsers();
        CHECK.due("its first digit is", x.map(), 1);
        x.output(4);
        CHECK.due("its second is not", x.map(), 2);
        CHECK.due("area()", x.area(), 3);
        CellMapper y = Samples.withCells();
        y.cell(Samples.pattern("3211"), 1, 1);
        Samples.addInputs(y, 2);
        y.function(0, 1, -1, 11);
        y.output(2);
        CHECK.due("INV inside of a NAND", y.map(), 1);
        y.output(y.function(0, -1, -1, 1));
        CHECK.due("INV that is a root", y.map(), 2);
        CHECK.due("area() with it", y.area(), 3);
    }

    private static void latchesOfConnections() {
        CHECK.sentence("going back through latches to the node of the net that drives each, until a node is no latch.");
        for (int count = 0; count <= 6; count++) {
            CellMapper x = Samples.withCells();
            Samples.addRow(x, new int[count]);
            x.output(x.function(count, -1, -1, 1));
            x.output(count);
            CHECK.due("map() with " + count, x.map(), 1);
            CHECK.due("latches before the INV", x.latches(count + 1, 0), count);
            CHECK.due("latches before the output", x.latches(-1, 1), count);
        }
        CellMapper x = Samples.withCells();
        x.input();
        x.latch(1);
        x.latch(0);
        x.function(1, -1, -1, 2);
        x.function(0, -1, -1, 2);
        x.drive(2, 3);
        x.drive(1, 4);
        x.output(2);
        x.map();
        CHECK.due("through nets at the nodes of others", x.latches(-1, 0), 2 + 64);
    }

    private static void noGates() {
        CHECK.sentence("at which gates have their outputs; 0 when there are no gates.");
        CellMapper x = Samples.withCells(5, 5);
        CHECK.due("map() of nothing", x.map(), 0);
        CHECK.due("period()", x.period(), 0);
        CHECK.due("shortest()", x.shortest(), 0);
        Samples.addRow(x, 1, 0);
        x.output(2);
        CHECK.due("map() of latches", x.map(), 0);
        CHECK.due("period()", x.period(), 0);
        CHECK.due("shortest()", x.shortest(), 0);
    }

    private static void timesFromInputsAndLatches() {
        CHECK.sentence("The PERIOD is the greatest of the times, counted from 0 at inputs and latches");
        CellMapper x = Samples.withCells(3, 5);
        x.input();
        x.latch(0);
        x.function(0, -1, -1, 1);
        x.drive(1, 2);
        x.function(1, 0, -1, 7);
        x.output(3);
        CHECK.due("map()", x.map(), 2);
        CHECK.due("the slower of two", x.period(), 5);
        x.drive(1, 0);
        x.output(x.function(2, 3, -1, 7));
        CHECK.due("map()", x.map(), 3);
        CHECK.due("NAND, NAND", x.period(), 10);
    }

    private static void eachPinMustHaveOne() {
        CHECK.sentence("takes the last latch of each of its pins' connections (each must have one)");
        for (int with = 0; with < 4; with++) {
            CellMapper x = Samples.withCells();
            Samples.addInputs(x, 2);
            x.latch(0);
            x.latch(0);
            x.drive(2, 0);
            x.drive(3, 1);
            x.output(x.function((with & 1) == 0 ? 0 : 2, (with & 2) == 0 ? 1 : 3, -1, 8));
            CHECK.due("map()", x.map(), 2);
            CHECK.due("period()", x.period(), 2);
            CHECK.due("shortest() with latches at " + with, x.shortest(), with == 3 ? 1 : 2);
            CHECK.due("moves with latches at " + with, x.moves(4), with == 3 ? 1 : 0);
        }
    }

    /** INV(q), NAND(q, INV(q)) and INV behind latches p, q: INV moves twice and NAND once. */
    private static void lastLatchIsTaken() {
        CHECK.sentence("and puts a new one first into each connection whose source is the gate");
        for (int values = 0; values < 4; values++) {
            int p = values & 1;
            int q = values >> 1;
            CellMapper x = Samples.withCells(2, 3);
            Samples.addRow(x, p, q);
            x.output(x.function(2, 2, -1, 6));
            x.output(x.function(2, -1, -1, 1));
            CHECK.due("map()", x.map(), 3);
            CHECK.due("moves of INV", x.moves(3), 2);
            CHECK.due("moves of NAND", x.moves(4), 1);
            CHECK.due("left before NAND", x.latches(4, 0), 1 + 64 * p);
            CHECK.due("INV to NAND, one taken again", x.latches(4, 1), 1 + 64 * (1 - p));
            CHECK.due("INV to the output, both", x.latches(-1, 1), 2 + 64 * ((1 - p) + 2 * (1 - q)));
            CHECK.due("NAND to INV", x.latches(5, 0), 1 + 64);
        }
    }

    /** Behind six latches one move is enough, whatever more could be made. */
    private static void fewestAtAllGates() {
        CHECK.sentence("and of all ways to it, the one with the fewest moves at each gate");
        CellMapper x = Samples.withCells(1, 2);
        Samples.addRow(x, 0, 0, 0, 0, 0, 0);
        x.output(x.function(6, 5, -1, 8));
        x.output(x.function(6, -1, -1, 1));
        CHECK.due("map()", x.map(), 3);
        CHECK.due("shortest()", x.shortest(), 2);
        CHECK.due("moves of NAND", x.moves(7), 1);
        CHECK.due("moves of the INV behind it", x.moves(8), 0);
        CHECK.due("moves of the other INV", x.moves(9), 0);
    }
}
