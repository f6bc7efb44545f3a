/** Patterns, libraries and circuits that several tests begin with. */
final class Samples {
    static final int LEAST = Integer.MIN_VALUE;
    static final int GREATEST = Integer.MAX_VALUE;

    /** The table of parity of three nets: over three nodes without INV it makes twelve new ones. */
    static final int PARITY = 0x96;

    static final int INV = pattern("21");
    static final int NAND = pattern("311");
    static final int AND = pattern("2311");
    static final int OR = pattern("32121");

    private Samples() {
    }

    /** The number of a pattern whose digits stand here from left to right, the lowest first. */
    static int pattern(String digits) {
        int number = 0;
        for (int place = digits.length() - 1; place >= 0; place--) {
            number = number * 4 + (digits.charAt(place) - '0');
        }
        return number;
    }

    static CellMapper withInputs(int count) {
        CellMapper x = new CellMapper();
        addInputs(x, count);
        return x;
    }

    static void addInputs(CellMapper x, int count) {
        for (int k = 0; k < count; k++) {
            x.input();
        }
    }

    static CellMapper withCells(int invDelay, int nandDelay) {
        CellMapper x = new CellMapper();
        x.cell(INV, 1, invDelay);
        x.cell(NAND, 2, nandDelay);
        return x;
    }

    static CellMapper withCells() {
        return withCells(1, 1);
    }

    /** Net 0 is an input, nets 1 to count are latches in a row behind it. */
    static void addRow(CellMapper x, int... initial) {
        x.input();
        for (int k = 0; k < initial.length; k++) {
            x.latch(initial[k]);
            x.drive(k + 1, k);
        }
    }

    /** Fills up with nets at the node of net 0. */
    static void addNets(CellMapper x, int from, int to) {
        for (int net = from; net < to; net++) {
            x.function(0, -1, -1, 2);
        }
    }

    /** Ten nets: three inputs, three latches, functions at nets 3, 7, 8 and 9; the latches are driven. */
    static CellMapper withThirtyTwoNodes() {
        CellMapper x = withInputs(3);
        x.function(0, 1, 2, PARITY);
        x.latch(0);
        x.latch(1);
        x.latch(0);
        x.function(4, 5, 6, PARITY);
        x.function(0, 4, -1, 7);
        x.function(0, 5, -1, 7);
        for (int latch = 4; latch <= 6; latch++) {
            x.drive(latch, latch - 4);
        }
        return x;
    }

    /** Five inputs and five latches, so that there is room for both but for the nodes; 14 or 15 nets. */
    static CellMapper withNodes(int count) {
        CellMapper x = withThirtyTwoNodes();
        x.function(3, 7, 8, PARITY);
        for (int nodes = x.nodes(); nodes < count; nodes++) {
            int net = nodes % 2 == 0 ? x.input() : x.latch(1);
            if (nodes % 2 != 0) {
                x.drive(net, 0);
            }
        }
        return x;
    }

    /**
     * An INV at node 2 in a ring with its latch, which is output 0, and behind it a tail NAND, INV, NAND, ..
     * NAND of 31 gates of delay 1, which is output 1: each of them needs a move more than the next one.
     */
    static CellMapper longTail() {
        CellMapper x = withCells();
        x.latch(0);
        x.latch(0);
        x.function(0, -1, -1, 1);
        x.drive(0, 2);
        x.drive(1, 2);
        for (int net = 2; net < 18; net++) {
            x.function(net, 1, -1, 11);
        }
        x.output(2);
        x.output(18);
        return x;
    }

    /** A count of two bits, from 2 on: 2, 3, 0, 1, 2, .. at the outputs. */
    static CellMapper counter() {
        CellMapper x = withCells();
        x.latch(0);
        x.latch(1);
        x.function(0, -1, -1, 1);
        x.function(0, 1, -1, 6);
        x.drive(0, 2);
        x.drive(1, 3);
        x.output(0);
        x.output(1);
        return x;
    }
}
