/** Promise 4 with promises 8 to 10: the nodes that functions make, or find. */
public final class FunctionTest {
    private static final Check CHECK = new Check();

    public static void main(String[] args) {
        functionsOfTwoNets();
        functionsOfThreeNets();
        lowHalfFirst();
        functionsOfLikeNets();
        CHECK.finish();
    }

    /** For each table: its node and, from node 2 on, the parts x and y of every node that it makes. */
    private static void functionsOfTwoNets() {
        int[][] due = {
            {},
            {5, 0, -1, 1, -1, 2, 3, 4, -1},
            {4, 1, -1, 0, 2, 3, -1},
            {2, 1, -1},
            {4, 0, -1, 1, 2, 3, -1},
            {2, 0, -1},
            {6, 0, -1, 1, 2, 1, -1, 0, 4, 3, 5},
            {3, 0, -1, 0, 1},
            {3, 0, 1, 2, -1},
            {6, 0, -1, 0, 1, 1, -1, 2, 4, 3, 5},
            {0},
            {3, 0, -1, 1, 2},
            {1},
            {4, 0, -1, 1, -1, 0, 3},
            {4, 1, -1, 0, -1, 2, 3},
        };
        for (int table = 1; table < 15; table++) {
            CellMapper x = Samples.withInputs(2);
            String name = "4: table " + table + " ";
            CHECK.due(name + "net", x.function(0, 1, -1, table), 2);
            CHECK.due(name + "node", x.nodeOf(2), due[table][0]);
            CHECK.due(name + "nodes", x.nodes(), 2 + due[table].length / 2);
            for (int k = 1; k < due[table].length; k++) {
                CHECK.due(name + "part " + k, x.part(2 + (k - 1) / 2, (k - 1) % 2), due[table][k]);
            }
            x.function(0, 1, -1, table);
            CHECK.due(name + "again", x.nodeOf(3), due[table][0]);
            CHECK.due(name + "nodes again", x.nodes(), 2 + due[table].length / 2);
        }
    }

    private static void functionsOfThreeNets() {
        CellMapper x = Samples.withInputs(3);
        CHECK.due("4: choice", x.function(0, 1, 2, 0xCA), 3);
        CHECK.due("4: its node", x.nodeOf(3), 6);
        int[][] parts = {{1, 2}, {2, -1}, {0, 4}, {3, 5}};
        for (int k = 0; k < parts.length; k++) {
            CHECK.due("10: x of " + (3 + k), x.part(3 + k, 0), parts[k][0]);
            CHECK.due("10: y of " + (3 + k), x.part(3 + k, 1), parts[k][1]);
        }
        CHECK.due("4: of a alone", x.function(0, 1, 2, 0xAA), 4);
        CHECK.due("9: of a alone", x.nodeOf(4), 0);
        CHECK.due("4: of b alone", x.function(0, 1, 2, 0xCC), 5);
        CHECK.due("9: of b alone", x.nodeOf(5), 1);
        CHECK.due("4: of c alone", x.function(0, 1, 2, 0xF0), 6);
        CHECK.due("9: of c alone", x.nodeOf(6), 2);
        CHECK.due("4: not c", x.function(0, 1, 2, 0x0F), 7);
        CHECK.due("9: not c", x.nodeOf(7), 4);
        CHECK.due("8: nodes()", x.nodes(), 7);
        CHECK.due("4: and", x.function(0, 1, 2, 0x80), 8);
        CHECK.due("9: and", x.nodeOf(8), 10);
        CHECK.due("10: inner and", x.part(9, 1), 8);
    }

    /** XOR of a and b when c is 0, AND of them when it is 1. */
    private static void lowHalfFirst() {
        CellMapper x = Samples.withInputs(3);
        CHECK.due("4: both halves", x.function(0, 1, 2, 0x86), 3);
        CHECK.due("9: the whole", x.nodeOf(3), 13);
        int[][] parts = {
            {0, -1}, {1, 3}, {1, -1}, {0, 5}, {4, 6}, {0, 1}, {8, -1}, {2, 9}, {2, -1}, {7, 11}, {10, 12}
        };
        CHECK.due("8: nodes()", x.nodes(), 3 + parts.length);
        for (int k = 0; k < parts.length; k++) {
            CHECK.due("10: x of " + (3 + k), x.part(3 + k, 0), parts[k][0]);
            CHECK.due("10: y of " + (3 + k), x.part(3 + k, 1), parts[k][1]);
        }
    }

    private static void functionsOfLikeNets() {
        CellMapper x = Samples.withInputs(1);
        CHECK.due("4: a xor a", x.function(0, 0, -1, 6), 1);
        CHECK.due("9: its node", x.nodeOf(1), 3);
        CHECK.due("10: part(2, 0)", x.part(2, 0), 0);
        CHECK.due("10: part(2, 1)", x.part(2, 1), 1);
        CHECK.due("10: part(3, 0)", x.part(3, 0), 2);
        CHECK.due("4: a and a", x.function(0, 0, -1, 8), 2);
        CHECK.due("9: a and a", x.nodeOf(2), 0);
        CHECK.due("4: nand of all three", x.function(0, 0, 0, 127), 3);
        CHECK.due("9: nand of all three", x.nodeOf(3), 1);
        CHECK.due("8: nodes()", x.nodes(), 4);
    }
}
