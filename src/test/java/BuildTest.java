/** Promises 1 to 10: nets, nodes, drives, outputs and cells. */
public final class BuildTest {
    private static final Check CHECK = new Check();

    public static void main(String[] args) {
        newObject();
        inputs();
        latches();
        fullOfNets();
        fullOfNodes();
        functionsOfOneNet();
        functionsOfTwoNets();
        functionsOfThreeNets();
        lowHalfFirst();
        functionsOfLikeNets();
        functionRefusals();
        functionNodeLimit();
        drives();
        outputs();
        patterns();
        cellLimits();
        parts();
        CHECK.finish();
    }

    private static CellMapper withInputs(int count) {
        CellMapper x = new CellMapper();
        for (int k = 0; k < count; k++) {
            x.input();
        }
        return x;
    }

    private static void newObject() {
        CellMapper x = new CellMapper();
        CHECK.due("1: nodes()", x.nodes(), 0);
        CHECK.due("1: nodeOf(0)", x.nodeOf(0), -1);
        CHECK.due("1: part(0, 0)", x.part(0, 0), -1);
        CHECK.due("1: area()", x.area(), -6);
        CHECK.due("1: period()", x.period(), -6);
        CHECK.due("1: shortest()", x.shortest(), -6);
        CHECK.due("1: cellAt(0)", x.cellAt(0), -6);
        CHECK.due("1: moves(0)", x.moves(0), -6);
        CHECK.due("1: latches(-1, 0)", x.latches(-1, 0), -6);
        CHECK.due("1: clockRetimed(0)", x.clockRetimed(0), -6);
        CHECK.due("1: clock(63)", x.clock(63), 0);
        x.reset();
        CHECK.due("1: output(0)", x.output(0), -1);
        CHECK.due("1: drive(0, 0)", x.drive(0, 0), false);
        CHECK.due("1: map()", x.map(), -5);
        CHECK.due("1: cell(6, 1, 1)", x.cell(6, 1, 1), 0);
        CHECK.due("1: input()", x.input(), 0);
        CHECK.due("1: output(0) with a net", x.output(0), 0);
        CHECK.due("1: objects share nothing", new CellMapper().nodes(), 0);
    }

    private static void inputs() {
        CellMapper x = new CellMapper();
        for (int k = 0; k < 6; k++) {
            CHECK.due("2: input() " + k, x.input(), k);
            CHECK.due("2: its node", x.nodeOf(k), k);
        }
        CHECK.due("2: seventh input()", x.input(), -2);
        CHECK.due("2: nodes() behind it", x.nodes(), 6);
        CHECK.due("2: nodeOf(6)", x.nodeOf(6), -1);
        CHECK.due("2: latch behind it", x.latch(0), 6);
    }

    private static void latches() {
        CellMapper x = withInputs(1);
        int[] wrong = {-1, 2, 3, Integer.MIN_VALUE, Integer.MAX_VALUE};
        for (int initial : wrong) {
            CHECK.due("3: latch(" + initial + ")", x.latch(initial), -1);
        }
        for (int k = 0; k < 6; k++) {
            CHECK.due("3: latch " + k, x.latch(k % 2), k + 1);
            CHECK.due("3: its node", x.nodeOf(k + 1), k + 1);
        }
        CHECK.due("3: seventh latch", x.latch(1), -2);
        CHECK.due("3: bad before full", x.latch(2), -1);
        CHECK.due("3: nodes()", x.nodes(), 7);
        CHECK.due("3: it is not driven", x.clock(0), -3);
    }

    private static void fullOfNets() {
        CellMapper x = withInputs(1);
        for (int net = 1; net < 40; net++) {
            CHECK.due("4: net " + net, x.function(net - 1, -1, -1, 2), net);
        }
        CHECK.due("2: input() with 40 nets", x.input(), -2);
        CHECK.due("3: latch(0) with 40 nets", x.latch(0), -2);
        CHECK.due("3: latch(2) with 40 nets", x.latch(2), -1);
        CHECK.due("4: function with 40 nets", x.function(0, -1, -1, 1), -2);
        CHECK.due("4: bad function with 40 nets", x.function(0, -1, -1, 3), -1);
        CHECK.due("8: nodes() with 40 nets", x.nodes(), 1);
        CHECK.due("9: nodeOf(39)", x.nodeOf(39), 0);
        CHECK.due("9: nodeOf(40)", x.nodeOf(40), -1);
    }

    private static CellMapper withThirtyTwoNodes() {
        CellMapper x = withInputs(3);
        x.function(0, 1, 2, 150);
        x.latch(0);
        x.latch(0);
        x.latch(0);
        x.function(4, 5, 6, 150);
        x.function(0, 4, -1, 8);
        return x;
    }

    private static void fullOfNodes() {
        CellMapper x = withThirtyTwoNodes();
        CHECK.due("8: nodes() before", x.nodes(), 32);
        CHECK.due("4: function with 32 nodes", x.function(3, 7, 8, 150), 9);
        CHECK.due("8: nodes() of a parity", x.nodes(), 43);
        CHECK.due("4: function with 43 nodes", x.function(0, -1, -1, 2), -2);
        CHECK.due("2: input()", x.input(), 10);
        CHECK.due("2: input()", x.input(), 11);
        CHECK.due("3: latch(0)", x.latch(0), 12);
        CHECK.due("3: latch(1)", x.latch(1), 13);
        CHECK.due("8: nodes()", x.nodes(), 47);
        CHECK.due("9: nodeOf(13)", x.nodeOf(13), 46);
        CHECK.due("2: the 48th node", x.input(), 14);
        CHECK.due("3: latch with 48 nodes", x.latch(0), -2);
        CHECK.due("3: bad latch with 48 nodes", x.latch(7), -1);
        CHECK.due("8: nodes() at the end", x.nodes(), 48);
        CHECK.due("9: nodeOf(14)", x.nodeOf(14), 47);
        CHECK.due("10: part(47, 0)", x.part(47, 0), -1);
        CHECK.due("10: part(48, 0)", x.part(48, 0), -1);
        fullOfNodesForInput();
    }

    private static void fullOfNodesForInput() {
        CellMapper x = withThirtyTwoNodes();
        x.function(3, 7, 8, 150);
        x.latch(0);
        x.latch(0);
        x.latch(0);
        x.input();
        x.input();
        CHECK.due("8: nodes()", x.nodes(), 48);
        CHECK.due("2: input() with 48 nodes", x.input(), -2);
    }

    private static void functionNodeLimit() {
        CellMapper x = withThirtyTwoNodes();
        x.input();
        CHECK.due("8: nodes()", x.nodes(), 33);
        CHECK.due("4: function with 33 nodes", x.function(0, -1, -1, 2), -2);
        CHECK.due("4: bad before full", x.function(0, -1, -1, 0), -1);
        CHECK.due("8: nodes() behind", x.nodes(), 33);
    }

    private static void functionsOfOneNet() {
        CellMapper x = withInputs(1);
        CHECK.due("4: same", x.function(0, -1, -1, 2), 1);
        CHECK.due("9: node of same", x.nodeOf(1), 0);
        CHECK.due("4: not", x.function(0, -1, -1, 1), 2);
        CHECK.due("9: node of not", x.nodeOf(2), 1);
        CHECK.due("4: not not", x.function(2, -1, -1, 1), 3);
        CHECK.due("9: node of not not", x.nodeOf(3), 0);
        CHECK.due("8: nodes()", x.nodes(), 2);
        CHECK.due("10: part(1, 0)", x.part(1, 0), 0);
        CHECK.due("10: part(1, 1)", x.part(1, 1), -1);
    }

    /** For each table: its node and, from node 2 on, the parts x and y of every node that it makes. */
    private static void functionsOfTwoNets() {
        int[][] due = {
            {},
            {5, 0, -1, 1, -1, 2, 3, 4, -1},
            {4, 1, -1, 0, 2, 3, -1},
            {2, 1, -1},
            {4, 0, -1, 1, 2, 3, -1},
            {2, 0, -1},
            {6, 0, -1, 1, 2, 1, -1, 0, 4, 3, 5},
            {3, 0, -1, 0, 1},
            {3, 0, 1, 2, -1},
            {6, 0, -1, 0, 1, 1, -1, 2, 4, 3, 5},
            {0},
            {3, 0, -1, 1, 2},
            {1},
            {4, 0, -1, 1, -1, 0, 3},
            {4, 1, -1, 0, -1, 2, 3},
        };
        for (int table = 1; table < 15; table++) {
            CellMapper x = withInputs(2);
            String name = "4: table " + table + " ";
            CHECK.due(name + "net", x.function(0, 1, -1, table), 2);
            CHECK.due(name + "node", x.nodeOf(2), due[table][0]);
            CHECK.due(name + "nodes", x.nodes(), 2 + due[table].length / 2);
            for (int k = 1; k < due[table].length; k++) {
                CHECK.due(name + "part " + k, x.part(2 + (k - 1) / 2, (k - 1) % 2), due[table][k]);
            }
            x.function(0, 1, -1, table);
            CHECK.due(name + "again", x.nodeOf(3), due[table][0]);
            CHECK.due(name + "nodes again", x.nodes(), 2 + due[table].length / 2);
        }
    }

    private static void functionsOfThreeNets() {
        CellMapper x = withInputs(3);
        CHECK.due("4: choice", x.function(0, 1, 2, 0xCA), 3);
        CHECK.due("4: its node", x.nodeOf(3), 6);
        int[][] parts = {{1, 2}, {2, -1}, {0, 4}, {3, 5}};
        for (int k = 0; k < parts.length; k++) {
            CHECK.due("10: x of " + (3 + k), x.part(3 + k, 0), parts[k][0]);
            CHECK.due("10: y of " + (3 + k), x.part(3 + k, 1), parts[k][1]);
        }
        CHECK.due("4: of a alone", x.function(0, 1, 2, 0xAA), 4);
        CHECK.due("9: of a alone", x.nodeOf(4), 0);
        CHECK.due("4: of b alone", x.function(0, 1, 2, 0xCC), 5);
        CHECK.due("9: of b alone", x.nodeOf(5), 1);
        CHECK.due("4: of c alone", x.function(0, 1, 2, 0xF0), 6);
        CHECK.due("9: of c alone", x.nodeOf(6), 2);
        CHECK.due("4: not c", x.function(0, 1, 2, 0x0F), 7);
        CHECK.due("9: not c", x.nodeOf(7), 4);
        CHECK.due("8: nodes()", x.nodes(), 7);
        CHECK.due("4: and", x.function(0, 1, 2, 0x80), 8);
        CHECK.due("9: and", x.nodeOf(8), 10);
        CHECK.due("10: inner and", x.part(9, 1), 8);
    }

    /** XOR of a and b when c is 0, AND of them when it is 1. */
    private static void lowHalfFirst() {
        CellMapper x = withInputs(3);
        CHECK.due("4: both halves", x.function(0, 1, 2, 0x86), 3);
        CHECK.due("9: the whole", x.nodeOf(3), 13);
        int[][] parts = {
            {0, -1}, {1, 3}, {1, -1}, {0, 5}, {4, 6}, {0, 1}, {8, -1}, {2, 9}, {2, -1}, {7, 11}, {10, 12}
        };
        CHECK.due("8: nodes()", x.nodes(), 3 + parts.length);
        for (int k = 0; k < parts.length; k++) {
            CHECK.due("10: x of " + (3 + k), x.part(3 + k, 0), parts[k][0]);
            CHECK.due("10: y of " + (3 + k), x.part(3 + k, 1), parts[k][1]);
        }
    }

    private static void functionsOfLikeNets() {
        CellMapper x = withInputs(1);
        CHECK.due("4: a xor a", x.function(0, 0, -1, 6), 1);
        CHECK.due("9: its node", x.nodeOf(1), 3);
        CHECK.due("10: part(2, 0)", x.part(2, 0), 0);
        CHECK.due("10: part(2, 1)", x.part(2, 1), 1);
        CHECK.due("10: part(3, 0)", x.part(3, 0), 2);
        CHECK.due("4: a and a", x.function(0, 0, -1, 8), 2);
        CHECK.due("9: a and a", x.nodeOf(2), 0);
        CHECK.due("4: nand of all three", x.function(0, 0, 0, 127), 3);
        CHECK.due("9: nand of all three", x.nodeOf(3), 1);
        CHECK.due("8: nodes()", x.nodes(), 4);
    }

    private static void functionRefusals() {
        CellMapper x = withInputs(2);
        int[][] wrong = {
            {2, -1, -1, 1}, {-1, -1, -1, 1}, {-1, 0, 1, 1}, {0, 2, -1, 1}, {0, -2, -1, 1}, {0, 1, 2, 1}, {0, 1, -2, 1},
            {0, -1, 1, 1}, {0, -1, -1, 0}, {0, -1, -1, 3}, {0, -1, -1, 4}, {0, -1, -1, -1}, {0, 1, -1, 0},
            {0, 1, -1, 15}, {0, 1, -1, 16}, {0, 1, -1, -2}, {0, 1, 0, 0}, {0, 1, 0, 255}, {0, 1, 0, 256},
            {0, 1, 0, -128}, {0, 1, 0, Integer.MIN_VALUE}, {0, 1, 0, Integer.MAX_VALUE},
            {Integer.MAX_VALUE, 1, 0, 1}, {Integer.MIN_VALUE, 1, 0, 1}, {0, Integer.MAX_VALUE, 0, 1},
        };
        for (int[] call : wrong) {
            String name = "4: function(" + call[0] + ", " + call[1] + ", " + call[2] + ", " + call[3] + ")";
            CHECK.due(name, x.function(call[0], call[1], call[2], call[3]), -1);
        }
        CHECK.due("8: nodes() behind refusals", x.nodes(), 2);
        CHECK.due("4: table 14 of two", x.function(0, 1, -1, 14), 2);
        CHECK.due("4: table 254 of three", x.function(0, 1, 0, 254), 3);
    }

    private static void drives() {
        CellMapper x = withInputs(1);
        x.latch(0);
        x.function(1, -1, -1, 2);
        CHECK.due("5: an input is no latch", x.drive(0, 0), false);
        CHECK.due("5: a function at a latch's node is no latch", x.drive(2, 0), false);
        CHECK.due("5: no net at all", x.drive(3, 0), false);
        CHECK.due("5: below", x.drive(-1, 0), false);
        CHECK.due("5: by no net", x.drive(1, 3), false);
        CHECK.due("5: by -1", x.drive(1, -1), false);
        CHECK.due("5: still not driven", x.clock(0), -3);
        CHECK.due("5: by an input", x.drive(1, 0), true);
        x.output(1);
        CHECK.due("5: first cycle", x.clock(1), 0);
        CHECK.due("5: second cycle", x.clock(1), 1);
        CHECK.due("5: by itself instead", x.drive(1, 1), true);
        CHECK.due("5: first cycle by itself", x.clock(1), 0);
        CHECK.due("5: second cycle by itself", x.clock(1), 0);
        CHECK.due("5: refused", x.drive(1, 9), false);
        CHECK.due("5: refusal changed nothing", x.clock(1), 0);
    }

    private static void outputs() {
        CellMapper x = withInputs(2);
        CHECK.due("6: output(2)", x.output(2), -1);
        CHECK.due("6: output(-1)", x.output(-1), -1);
        CHECK.due("6: first", x.output(1), 0);
        CHECK.due("6: the same again", x.output(1), 1);
        CHECK.due("6: third", x.output(0), 2);
        CHECK.due("6: fourth", x.output(1), 3);
        CHECK.due("6: fifth", x.output(0), -2);
        CHECK.due("6: bad before full", x.output(5), -1);
        CHECK.due("6: they are seen", x.clock(2), 11);
        CHECK.due("6: and the other", x.clock(1), 4);
    }

    private static void patterns() {
        int good = 0;
        for (int pattern = -20000; pattern < 70000; pattern++) {
            boolean fine = Reference.parse(pattern) != null;
            good += fine ? 1 : 0;
            int want = fine ? 0 : -1;
            CHECK.due("7: cell(" + pattern + ", 1, 0)", new CellMapper().cell(pattern, 1, 0), want);
        }
        CHECK.due("7: patterns in all", good, 88);
        int[] wrong = {0, 1, 2, 3, 4, 5, 7, 21, 22, 24, 39, 16384, 16384 + 23, Integer.MIN_VALUE, Integer.MAX_VALUE, -23};
        for (int pattern : wrong) {
            CHECK.due("7: cell(" + pattern + ", 1, 1)", new CellMapper().cell(pattern, 1, 1), -1);
        }
        int[] right = {6, 23, 26, 94, 91, 103, 411, 6826, 5983};
        for (int pattern : right) {
            CHECK.due("7: cell(" + pattern + ", 1, 1)", new CellMapper().cell(pattern, 1, 1), 0);
        }
        CHECK.due("7: eight digits", new CellMapper().cell(27306, 1, 1), -1);
    }

    private static void cellLimits() {
        CellMapper x = new CellMapper();
        CHECK.due("7: area 0", x.cell(6, 0, 0), -1);
        CHECK.due("7: area 1001", x.cell(6, 1001, 0), -1);
        CHECK.due("7: delay -1", x.cell(6, 1, -1), -1);
        CHECK.due("7: delay 1001", x.cell(6, 1, 1001), -1);
        CHECK.due("7: least", x.cell(6, 1, 0), 0);
        CHECK.due("7: greatest", x.cell(23, 1000, 1000), 1);
        for (int cell = 2; cell < 8; cell++) {
            CHECK.due("7: cell " + cell, x.cell(6, 1, 0), cell);
        }
        CHECK.due("7: ninth", x.cell(6, 1, 0), -2);
        CHECK.due("7: bad pattern before full", x.cell(7, 1, 0), -1);
        CHECK.due("7: bad area before full", x.cell(6, 0, 0), -1);
        CHECK.due("7: bad delay before full", x.cell(6, 1, 2000), -1);
    }

    private static void parts() {
        CellMapper x = withInputs(2);
        x.latch(1);
        x.function(0, 1, -1, 8);
        int[][] due = {
            {0, 0, -1}, {0, 1, -1}, {2, 0, -1}, {3, 0, 0}, {3, 1, 1}, {3, 2, -1}, {3, -1, -1}, {4, 0, 3}, {4, 1, -1},
            {4, 2, -1}, {5, 0, -1}, {-1, 0, -1}, {Integer.MAX_VALUE, 0, -1}, {Integer.MIN_VALUE, 1, -1},
        };
        for (int[] call : due) {
            CHECK.due("10: part(" + call[0] + ", " + call[1] + ")", x.part(call[0], call[1]), call[2]);
        }
        CHECK.due("9: nodeOf(3)", x.nodeOf(3), 4);
        CHECK.due("9: nodeOf(-1)", x.nodeOf(-1), -1);
        CHECK.due("9: nodeOf(4)", x.nodeOf(4), -1);
        CHECK.due("8: nodes()", x.nodes(), 5);
    }
}
