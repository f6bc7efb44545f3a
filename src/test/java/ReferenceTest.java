import java.util.Random;
import java.util.stream.IntStream;

/** Long runs of chosen calls, every answer beside that of the other way of working it out. */
public final class ReferenceTest {
    private static final int RUNS = 1500;
    private static final int CALLS = 512;
    private static final int[] GOOD_PATTERNS =
        IntStream.range(1, 16384).filter(p -> Reference.parse(p) != null).toArray();
    private static final int[] SMALL_PATTERNS = {94, 411, 91, 351, 378, 1643, 5743, 5983, 6571};

    private final Check check;
    private final Random random;
    private final CellMapper program = new CellMapper();
    private final Reference reference = new Reference();
    private final String name;
    private int calls = 0;

    private ReferenceTest(Check check, int seed) {
        this.check = check;
        this.random = new Random(seed);
        this.name = "run " + seed + ": ";
    }

    public static void main(String[] args) {
        Check check = new Check();
        int runs = args.length > 0 ? Integer.parseInt(args[0]) : RUNS;
        for (int seed = 0; seed < runs && check.wrong() < 20; seed++) {
            new ReferenceTest(check, seed).run(seed % 5);
        }
        check.finish();
    }

    private void run(int style) {
        if (style != 4) {
            library();
            leaves(style);
        }
        int functions = 1 + random.nextInt(style == 2 || style == 3 ? 30 : 9);
        for (int k = 0; k < functions; k++) {
            function(style);
        }
        driveAll();
        for (int k = 1 + random.nextInt(3); k > 0; k--) {
            output(reference.nets.size() - 1 - random.nextInt(1 + reference.nets.size() / 3));
        }
        while (calls < CALLS - 300) {
            map();
            look();
            cycles(1 + random.nextInt(12));
            anyCalls(1 + random.nextInt(25));
        }
        map();
        look();
        cycles(20);
    }

    private void due(String what, long got, long want) {
        calls++;
        check.due(name + what, got, want);
    }

    private void library() {
        boolean reverse = random.nextBoolean();
        int delays = random.nextBoolean() ? 3 : 12;
        cell(reverse ? 23 : 6, 1 + random.nextInt(3), random.nextInt(delays));
        cell(reverse ? 6 : 23, 1 + random.nextInt(3), random.nextInt(delays));
        for (int more = random.nextInt(5); more > 0; more--) {
            cell(goodPattern(), 1 + random.nextInt(5), random.nextInt(delays));
        }
    }

    /** Styles 1 and 3 have no input, so that moves go round as often as they are asked for. */
    private void leaves(int style) {
        for (int k = style == 1 || style == 3 ? 0 : 1 + random.nextInt(3); k > 0; k--) {
            due("input()", program.input(), reference.input());
        }
        for (int k = 1 + random.nextInt(6); k > 0; k--) {
            latch(random.nextInt(2));
        }
    }

    private void driveAll() {
        for (int net = 0; net < reference.nets.size(); net++) {
            if (reference.nets.get(net).kind == 'l' && random.nextInt(12) != 0) {
                drive(net, recentNet());
            }
        }
    }

    private int anyNet() {
        return random.nextInt(30) == 0 ? random.nextInt(60) - 10 : random.nextInt(Math.max(1, reference.nets.size()));
    }

    private int recentNet() {
        int size = Math.max(1, reference.nets.size());
        return random.nextInt(3) == 0 ? anyNet() : size - 1 - random.nextInt(Math.min(size, 4));
    }

    private void latch(int initial) {
        due("latch(" + initial + ")", program.latch(initial), reference.latch(initial));
    }

    private void function(int style) {
        if (style == 3) {
            addToTail();
            return;
        }
        int count = style == 2 ? 1 + random.nextInt(2) : 1 + random.nextInt(3);
        int a = recentNet();
        int b = count > 1 ? anyNet() : -1;
        int c = count > 2 || random.nextInt(40) == 0 ? anyNet() : -1;
        int table = style == 2 && count == 2 ? 7 : random.nextInt(1 << (1 << count));
        table = random.nextInt(40) == 0 ? random.nextInt(300) - 10 : table;
        function(a, b, c, table);
    }

    /** A long chain of gates that can ask the first of them for many moves. */
    private void addToTail() {
        int last = Math.max(0, reference.nets.size() - 1);
        int early = random.nextInt(3) == 0 ? anyNet() : random.nextInt(Math.min(7, last + 1));
        function(last, early, -1, random.nextInt(8) == 0 ? 1 + random.nextInt(14) : 7);
    }

    private void function(int a, int b, int c, int table) {
        String what = "function(" + a + ", " + b + ", " + c + ", " + table + ")";
        due(what, program.function(a, b, c, table), reference.function(a, b, c, table));
        due("nodes()", program.nodes(), reference.nodes());
    }

    private void drive(int latch, int net) {
        due("drive(" + latch + ", " + net + ")", program.drive(latch, net) ? 1 : 0, reference.drive(latch, net) ? 1 : 0);
    }

    private void output(int net) {
        due("output(" + net + ")", program.output(net), reference.output(net));
    }

    private void cell(int pattern, int area, int delay) {
        String what = "cell(" + pattern + ", " + area + ", " + delay + ")";
        due(what, program.cell(pattern, area, delay), reference.cell(pattern, area, delay));
    }

    private void map() {
        due("map()", program.map(), reference.map());
    }

    /** Looks at everything; it counts as a handful of calls, since it changes nothing. */
    private void look() {
        int before = calls;
        due("area()", program.area(), reference.area());
        due("period()", program.period(), reference.period());
        due("shortest()", program.shortest(), reference.shortest());
        for (int net = -1; net <= reference.nets.size(); net++) {
            due("nodeOf(" + net + ")", program.nodeOf(net), reference.nodeOf(net));
        }
        for (int node = -2; node < reference.nodes.size() + 2; node++) {
            due("cellAt(" + node + ")", program.cellAt(node), reference.cellAt(node));
            due("moves(" + node + ")", program.moves(node), reference.moves(node));
            for (int k = -1; k < 5; k++) {
                due("part(" + node + ", " + k + ")", program.part(node, k), reference.part(node, k));
                due("latches(" + node + ", " + k + ")", program.latches(node, k), reference.latches(node, k));
            }
        }
        calls = before + 10;
    }

    /** Forward moves keep what the outputs show: both circuits, clocked alike from the start, agree. */
    private void cycles(int count) {
        if (random.nextInt(3) == 0) {
            reset();
        }
        program.reset();
        reference.reset();
        boolean alike = reference.mapped;
        for (int cycle = 0; cycle < count; cycle++) {
            int inputs = random.nextInt();
            int given = clock(inputs);
            int retimed = clockRetimed(inputs);
            if (alike) {
                due("clockRetimed beside clock", retimed, given);
            }
        }
    }

    private int clock(int inputs) {
        int got = program.clock(inputs);
        due("clock(" + inputs + ")", got, reference.clock(inputs));
        return got;
    }

    private int clockRetimed(int inputs) {
        int got = program.clockRetimed(inputs);
        due("clockRetimed(" + inputs + ")", got, reference.clockRetimed(inputs));
        return got;
    }

    private void reset() {
        calls++;
        program.reset();
        reference.reset();
    }

    private void anyCalls(int count) {
        for (int k = 0; k < count; k++) {
            anyCall(random.nextInt(16));
        }
    }

    private void anyCall(int kind) {
        switch (kind) {
            case 0: due("input()", program.input(), reference.input()); break;
            case 1: latch(random.nextInt(10) == 0 ? random.nextInt(9) - 4 : random.nextInt(2)); break;
            case 2: case 3: function(random.nextInt(3)); break;
            case 4: drive(anyNet(), anyNet()); break;
            case 5: driveAll(); break;
            case 6: output(recentNet()); break;
            case 7: anyCell(); break;
            case 8: map(); break;
            case 9: clock(random.nextInt(64)); break;
            case 10: clockRetimed(random.nextInt(64)); break;
            case 11: if (random.nextInt(4) == 0) { reset(); } break;
            case 12: due("area()", program.area(), reference.area()); break;
            case 13: due("period()", program.period(), reference.period()); break;
            case 14: due("shortest()", program.shortest(), reference.shortest()); break;
            default: due("cellAt(3)", program.cellAt(3), reference.cellAt(3)); break;
        }
    }

    private int goodPattern() {
        int[] row = random.nextInt(3) == 0 ? GOOD_PATTERNS : SMALL_PATTERNS;
        return row[random.nextInt(row.length)];
    }

    private void anyCell() {
        int pattern = random.nextInt(4) == 0 ? random.nextInt(20000) - 1000 : goodPattern();
        int area = random.nextInt(10) == 0 ? random.nextInt(1200) - 100 : 1 + random.nextInt(5);
        int delay = random.nextInt(10) == 0 ? random.nextInt(1200) - 100 : random.nextInt(5);
        cell(pattern, area, delay);
    }
}
