import java.util.ArrayDeque;
import java.util.ArrayList;
import java.util.HashSet;
import java.util.LinkedHashMap;
import java.util.List;
import java.util.Map;
import java.util.Random;
import java.util.Set;

/**
 * Small circuits, in which every run of forward moves is tried, up to as many at a gate as there are
 * gates: no theory, only the words of the document on a move and on the period.
 */
public final class MoveSearchTest {
    private static final int CIRCUITS = 3000;
    private static final int MOST_GATES = 5;

    private final CellMapper program = new CellMapper();
    private final Reference circuit = new Reference();
    private final Random random;
    private List<Integer> gates;

    private MoveSearchTest(int seed) {
        random = new Random(seed);
    }

    public static void main(String[] args) {
        Check check = new Check();
        int searched = 0;
        for (int seed = 0; seed < CIRCUITS; seed++) {
            searched += new MoveSearchTest(seed).run(check, "circuit " + seed + ": ") ? 1 : 0;
        }
        check.due("enough circuits were small", searched > CIRCUITS / 4, true);
        check.finish();
    }

    private boolean run(Check check, String name) {
        build();
        int count = circuit.map();
        check.due(name + "map()", program.map(), count);
        if (count < 1 || count > MOST_GATES) {
            return false;
        }
        gates = new ArrayList<>(circuit.gates.keySet());
        search(check, name);
        return true;
    }

    private void build() {
        both(6, 1 + random.nextInt(3), random.nextInt(4));
        both(23, 1 + random.nextInt(3), random.nextInt(4));
        both(94, 1 + random.nextInt(3), random.nextInt(4));
        for (int k = random.nextInt(3); k > 0; k--) {
            program.input();
            circuit.input();
        }
        for (int k = 1 + random.nextInt(4); k > 0; k--) {
            int initial = random.nextInt(2);
            program.latch(initial);
            circuit.latch(initial);
        }
        int leaves = circuit.nets.size();
        for (int k = 1 + random.nextInt(4); k > 0; k--) {
            int a = circuit.nets.size() - 1;
            int b = random.nextInt(circuit.nets.size());
            int table = random.nextInt(3) == 0 ? 1 + random.nextInt(14) : 7 + random.nextInt(2);
            program.function(a, b, -1, table);
            circuit.function(a, b, -1, table);
        }
        for (int net = 0; net < leaves; net++) {
            int driver = random.nextInt(circuit.nets.size());
            program.drive(net, driver);
            circuit.drive(net, driver);
        }
        program.output(circuit.nets.size() - 1);
        circuit.output(circuit.nets.size() - 1);
    }

    private void both(int pattern, int area, int delay) {
        program.cell(pattern, area, delay);
        circuit.cell(pattern, area, delay);
    }

    private Map<String, Reference.Wire> unmoved() {
        Map<String, Reference.Wire> wires = new LinkedHashMap<>();
        circuit.wires.forEach((key, wire) -> {
            Reference.Wire copy = new Reference.Wire();
            copy.source = wire.source;
            copy.target = wire.target;
            int node = key.startsWith("-1.") ? circuit.nets.get(circuit.outputs.get(0)).node
                : circuit.gates.get(wire.target).pins().get(Integer.parseInt(key.substring(key.indexOf('.') + 1)));
            for (Reference.Net latch = latchAt(node); latch != null; latch = latchAt(node)) {
                copy.initial.addFirst(latch.initial);
                node = circuit.nets.get(latch.driver).node;
            }
            wires.put(key, copy);
        });
        return wires;
    }

    private Reference.Net latchAt(int node) {
        return circuit.nets.stream().filter(n -> n.kind == 'l' && n.node == node).findFirst().orElse(null);
    }

    private record State(List<Integer> moves, Map<String, Reference.Wire> wires) {}

    private void search(Check check, String name) {
        List<Integer> none = new ArrayList<>();
        gates.forEach(g -> none.add(0));
        ArrayDeque<State> open = new ArrayDeque<>();
        Set<List<Integer>> seen = new HashSet<>();
        open.add(new State(none, unmoved()));
        seen.add(none);
        int shortest = period(open.peek().wires);
        check.due(name + "period()", program.period(), shortest);
        List<State> best = new ArrayList<>();
        while (!open.isEmpty()) {
            State state = open.poll();
            int period = period(state.wires);
            if (period < shortest) {
                best.clear();
                shortest = period;
            }
            if (period == shortest) {
                best.add(state);
            }
            for (int k = 0; k < gates.size(); k++) {
                addMoved(state, k, seen, open);
            }
        }
        check.due(name + "shortest()", program.shortest(), shortest);
        compare(check, name, best);
    }

    private void addMoved(State state, int k, Set<List<Integer>> seen, ArrayDeque<State> open) {
        if (state.moves.get(k) >= gates.size() || !circuit.canMove(gates.get(k), state.wires)) {
            return;
        }
        List<Integer> moves = new ArrayList<>(state.moves);
        moves.set(k, moves.get(k) + 1);
        if (seen.add(moves)) {
            Map<String, Reference.Wire> wires = new LinkedHashMap<>();
            state.wires.forEach((key, wire) -> {
                Reference.Wire copy = new Reference.Wire();
                copy.source = wire.source;
                copy.target = wire.target;
                copy.initial = wire.initial.clone();
                wires.put(key, copy);
            });
            circuit.moveAt(gates.get(k), wires);
            open.add(new State(moves, wires));
        }
    }

    private void compare(Check check, String name, List<State> best) {
        State fewest = best.get(0);
        for (int k = 0; k < gates.size(); k++) {
            int gate = k;
            int least = best.stream().mapToInt(s -> s.moves.get(gate)).min().getAsInt();
            check.due(name + "moves(" + gates.get(k) + ")", program.moves(gates.get(k)), least);
        }
        for (State state : best) {
            boolean below = true;
            for (int k = 0; k < gates.size(); k++) {
                below &= state.moves.get(k) <= fewest.moves.get(k);
            }
            fewest = below ? state : fewest;
        }
        fewest.wires.forEach((key, wire) -> {
            long want = wire.initial.size();
            long weight = 64;
            for (int value : wire.initial) {
                want += weight * value;
                weight *= 2;
            }
            int node = key.startsWith("-1.") ? -1 : wire.target;
            int pin = Integer.parseInt(key.substring(key.indexOf('.') + 1));
            check.due(name + "latches(" + node + ", " + pin + ")", program.latches(node, pin), want);
        });
    }

    private int period(Map<String, Reference.Wire> wires) {
        int longest = 0;
        for (int gate : gates) {
            longest = Math.max(longest, time(gate, wires));
        }
        return longest;
    }

    private int time(int gate, Map<String, Reference.Wire> wires) {
        int last = 0;
        for (Reference.Wire wire : wires.values()) {
            if (wire.target == gate && wire.initial.isEmpty() && circuit.gates.containsKey(wire.source)) {
                last = Math.max(last, time(wire.source, wires));
            }
        }
        return last + circuit.cells.get(circuit.gates.get(gate).cell()).delay();
    }
}
