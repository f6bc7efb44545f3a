import java.util.ArrayDeque;
import java.util.ArrayList;
import java.util.Arrays;
import java.util.HashMap;
import java.util.LinkedHashMap;
import java.util.List;
import java.util.Map;
import java.util.TreeMap;
import java.util.TreeSet;

/**
 * The document's words once more, in other ways than the program's: patterns are trees, the circuit is
 * clocked by the tables of its nets, the moves come from difference constraints over all pairs of gates.
 */
final class Reference {
    static final class Net {
        final char kind;
        final int node;
        int initial;
        int present;
        int driver = -1;
        int[] arguments = {};
        int table;

        Net(char kind, int node) {
            this.kind = kind;
            this.node = node;
        }
    }

    /** A pin has no parts, an INV one, a NAND two. */
    static final class Tree {
        final List<Tree> parts = new ArrayList<>();
    }

    record Cell(int pattern, Tree tree, int area, int delay) {}

    record Node(String kind, int x, int y) {}

    record Laying(String swaps, List<Integer> pins) {}

    record Choice(int cell, List<Integer> pins, int cost) {}

    static final class Wire {
        int source;
        int target;
        int length;
        ArrayDeque<Integer> initial = new ArrayDeque<>();
        ArrayDeque<Integer> present = new ArrayDeque<>();
    }

    final List<Net> nets = new ArrayList<>();
    final List<Node> nodes = new ArrayList<>();
    final List<Integer> outputs = new ArrayList<>();
    final List<Cell> cells = new ArrayList<>();
    boolean mapped;
    final TreeMap<Integer, Choice> gates = new TreeMap<>();
    final Map<String, Wire> wires = new LinkedHashMap<>();
    Map<Integer, Integer> moves = new HashMap<>();
    int period;
    int shortest;

    private long count(char kind) {
        return nets.stream().filter(n -> n.kind == kind).count();
    }

    private boolean isNet(int net) {
        return net >= 0 && net < nets.size();
    }

    private void changed() {
        mapped = false;
        nets.forEach(n -> n.present = n.initial);
    }

    private int add(Net net) {
        nets.add(net);
        changed();
        return nets.size() - 1;
    }

    int input() {
        if (nets.size() >= 40 || count('i') >= 6 || nodes.size() >= 48) {
            return -2;
        }
        nodes.add(new Node("input", -1, -1));
        return add(new Net('i', nodes.size() - 1));
    }

    int latch(int initial) {
        if (initial < 0 || initial > 1) {
            return -1;
        }
        if (nets.size() >= 40 || count('l') >= 6 || nodes.size() >= 48) {
            return -2;
        }
        nodes.add(new Node("latch", -1, -1));
        Net net = new Net('l', nodes.size() - 1);
        net.initial = initial;
        return add(net);
    }

    int function(int a, int b, int c, int table) {
        int[] all = c != -1 ? new int[] {a, b, c} : b != -1 ? new int[] {a, b} : new int[] {a};
        for (int net : all) {
            if (!isNet(net)) {
                return -1;
            }
        }
        String bits = bits(table, 1 << all.length);
        if (bits == null || isConstant(bits)) {
            return -1;
        }
        if (nets.size() >= 40 || nodes.size() > 32) {
            return -2;
        }
        Net net = new Net('f', nodeOf(all, bits));
        net.arguments = all;
        net.table = table;
        return add(net);
    }

    /** The table as text, bit 0 first; null when it has higher bits. */
    private static String bits(int table, int width) {
        if (table < 0 || (table >> width) != 0) {
            return null;
        }
        StringBuilder text = new StringBuilder();
        for (int bit = 0; bit < width; bit++) {
            text.append((char) ('0' + ((table >> bit) & 1)));
        }
        return text.toString();
    }

    private static boolean isConstant(String bits) {
        return bits.indexOf('0') < 0 || bits.indexOf('1') < 0;
    }

    private int nodeOf(int[] arguments, String bits) {
        int[] before = Arrays.copyOf(arguments, arguments.length - 1);
        int z = nets.get(arguments[arguments.length - 1]).node;
        String low = bits.substring(0, bits.length() / 2);
        String high = bits.substring(bits.length() / 2);
        if (low.equals(high)) {
            return nodeOf(before, low);
        }
        int l = isConstant(low) ? -1 : nodeOf(before, low);
        int h = isConstant(high) ? -1 : nodeOf(before, high);
        String kind = (l >= 0 ? "x" : low.substring(0, 1)) + (h >= 0 ? "x" : high.substring(0, 1));
        switch (kind) {
            case "01": return z;
            case "10": return inv(z);
            case "0x": return inv(nand(z, h));
            case "1x": return nand(z, inv(h));
            case "x0": return inv(nand(inv(z), l));
            case "x1": return nand(inv(z), inv(l));
            default: return nand(nand(z, h), nand(inv(z), l));
        }
    }

    private int inv(int x) {
        return nodes.get(x).kind.equals("inv") ? nodes.get(x).x : make(new Node("inv", x, -1));
    }

    private int nand(int x, int y) {
        return x == y ? inv(x) : make(new Node("nand", Math.min(x, y), Math.max(x, y)));
    }

    private int make(Node node) {
        if (!nodes.contains(node)) {
            nodes.add(node);
        }
        return nodes.indexOf(node);
    }

    boolean drive(int latch, int net) {
        if (!isNet(latch) || nets.get(latch).kind != 'l' || !isNet(net)) {
            return false;
        }
        nets.get(latch).driver = net;
        changed();
        return true;
    }

    int output(int net) {
        if (!isNet(net)) {
            return -1;
        }
        if (outputs.size() >= 4) {
            return -2;
        }
        outputs.add(net);
        changed();
        return outputs.size() - 1;
    }

    int cell(int pattern, int area, int delay) {
        Tree tree = parse(pattern);
        if (tree == null || area < 1 || area > 1000 || delay < 0 || delay > 1000) {
            return -1;
        }
        if (cells.size() >= 8) {
            return -2;
        }
        cells.add(new Cell(pattern, tree, area, delay));
        changed();
        return cells.size() - 1;
    }

    /** The tree of a pattern; null when it is none, or a pin alone. */
    static Tree parse(int pattern) {
        if (pattern <= 0) {
            return null;
        }
        String digits = new StringBuilder(Integer.toString(pattern, 4)).reverse().toString();
        int[] at = {0};
        Tree tree = digits.length() > 7 || digits.charAt(0) == '1' ? null : parse(digits, at);
        return at[0] == digits.length() ? tree : null;
    }

    private static Tree parse(String digits, int[] at) {
        if (at[0] >= digits.length() || digits.charAt(at[0]) == '0') {
            return null;
        }
        int parts = digits.charAt(at[0]++) - '1';
        Tree tree = new Tree();
        for (int part = 0; part < parts; part++) {
            Tree next = parse(digits, at);
            if (next == null) {
                return null;
            }
            tree.parts.add(next);
        }
        return tree;
    }

    int nodes() {
        return nodes.size();
    }

    int nodeOf(int net) {
        return isNet(net) ? nets.get(net).node : -1;
    }

    int part(int node, int which) {
        if (node < 0 || node >= nodes.size()) {
            return -1;
        }
        return which == 0 ? nodes.get(node).x : which == 1 ? nodes.get(node).y : -1;
    }

    private boolean isUndriven() {
        return nets.stream().anyMatch(n -> n.kind == 'l' && n.driver < 0);
    }

    private boolean isLogic(int node) {
        return nodes.get(node).x >= 0;
    }

    private Net latchAt(int node) {
        return nets.stream().filter(n -> n.kind == 'l' && n.node == node).findFirst().orElse(null);
    }

    private boolean hasRing() {
        for (Net latch : nets) {
            Net now = latch.kind == 'l' ? latch : null;
            for (int step = 0; step < 100 && now != null; step++) {
                now = latchAt(nets.get(now.driver).node);
            }
            if (now != null) {
                return true;
            }
        }
        return false;
    }

    int map() {
        if (isUndriven()) {
            return -3;
        }
        if (hasRing()) {
            return -4;
        }
        if (cells.stream().noneMatch(c -> c.pattern == 6) || cells.stream().noneMatch(c -> c.pattern == 23)) {
            return -5;
        }
        cover();
        connect();
        retime();
        mapped = true;
        reset(wires);
        return gates.size();
    }

    private static void reset(Map<String, Wire> wires) {
        wires.values().forEach(w -> w.present = w.initial.clone());
    }

    private TreeSet<Integer> ends() {
        TreeSet<Integer> ends = new TreeSet<>();
        outputs.forEach(o -> ends.add(nets.get(o).node));
        nets.stream().filter(n -> n.kind == 'l').forEach(n -> ends.add(nets.get(n.driver).node));
        return ends;
    }

    private void addLive(int node, TreeSet<Integer> live) {
        if (node >= 0 && live.add(node)) {
            addLive(nodes.get(node).x, live);
            addLive(nodes.get(node).y, live);
        }
    }

    private void cover() {
        TreeSet<Integer> ends = ends();
        TreeSet<Integer> live = new TreeSet<>();
        ends.forEach(e -> addLive(e, live));
        TreeSet<Integer> roots = new TreeSet<>();
        for (int node : live) {
            long users = live.stream().filter(u -> nodes.get(u).x == node || nodes.get(u).y == node).count();
            if (isLogic(node) && (ends.contains(node) || users > 1)) {
                roots.add(node);
            }
        }
        Map<Integer, Choice> choices = new HashMap<>();
        for (int node : live) {
            if (isLogic(node)) {
                choices.put(node, choose(node, roots, choices));
            }
        }
        gates.clear();
        roots.forEach(r -> addGate(r, choices));
    }

    private void addGate(int node, Map<Integer, Choice> choices) {
        if (isLogic(node) && gates.put(node, choices.get(node)) == null) {
            choices.get(node).pins.forEach(p -> addGate(p, choices));
        }
    }

    private Choice choose(int node, TreeSet<Integer> roots, Map<Integer, Choice> choices) {
        Choice best = null;
        String bestSwaps = null;
        for (int cell = 0; cell < cells.size(); cell++) {
            for (Laying laying : layings(cells.get(cell).tree, node, true, roots)) {
                int cost = cells.get(cell).area;
                for (int pin : laying.pins) {
                    cost += isLogic(pin) && !roots.contains(pin) ? choices.get(pin).cost : 0;
                }
                boolean better = best == null || cost < best.cost
                    || cost == best.cost && cell == best.cell && laying.swaps.compareTo(bestSwaps) < 0;
                if (better) {
                    best = new Choice(cell, laying.pins, cost);
                    bestSwaps = laying.swaps;
                }
            }
        }
        return best;
    }

    private List<Laying> layings(Tree tree, int node, boolean first, TreeSet<Integer> roots) {
        List<Laying> all = new ArrayList<>();
        Node at = nodes.get(node);
        if (tree.parts.isEmpty()) {
            all.add(new Laying("", List.of(node)));
        } else if (!first && roots.contains(node)) {
            return all;
        } else if (tree.parts.size() == 1 && at.kind.equals("inv")) {
            return layings(tree.parts.get(0), at.x, false, roots);
        } else if (tree.parts.size() == 2 && at.kind.equals("nand")) {
            join(all, "1", layings(tree.parts.get(0), at.y, false, roots), layings(tree.parts.get(1), at.x, false, roots));
            join(all, "0", layings(tree.parts.get(0), at.x, false, roots), layings(tree.parts.get(1), at.y, false, roots));
        }
        return all;
    }

    private static void join(List<Laying> all, String swap, List<Laying> left, List<Laying> right) {
        for (Laying l : left) {
            for (Laying r : right) {
                List<Integer> pins = new ArrayList<>(l.pins);
                pins.addAll(r.pins);
                all.add(new Laying(swap + l.swaps + r.swaps, pins));
            }
        }
    }

    private void connect() {
        wires.clear();
        gates.forEach((node, choice) -> {
            for (int pin = 0; pin < choice.pins.size(); pin++) {
                wires.put(node + "." + pin, wire(choice.pins.get(pin), node));
            }
        });
        for (int output = 0; output < outputs.size(); output++) {
            wires.put("-1." + output, wire(nets.get(outputs.get(output)).node, -1));
        }
    }

    private Wire wire(int from, int target) {
        Wire wire = new Wire();
        int node = from;
        for (Net latch = latchAt(node); latch != null; latch = latchAt(node)) {
            wire.initial.addFirst(latch.initial);
            node = nets.get(latch.driver).node;
        }
        wire.source = node;
        wire.target = target;
        wire.length = wire.initial.size();
        return wire;
    }

    private int delay(int gate) {
        return cells.get(gates.get(gate).cell).delay;
    }

    /** All pairs: the fewest latches on a way from gate to gate, and the longest delay of those ways. */
    private void retime() {
        List<Integer> names = new ArrayList<>(gates.keySet());
        int n = names.size();
        int[][] w = new int[n][n];
        int[][] d = new int[n][n];
        final int far = 1000000;
        for (int u = 0; u < n; u++) {
            Arrays.fill(w[u], far);
        }
        for (Wire wire : wires.values()) {
            int u = names.indexOf(wire.source);
            int v = names.indexOf(wire.target);
            if (u >= 0 && v >= 0) {
                relax(w, d, u, v, wire.length, delay(names.get(u)));
            }
        }
        for (int k = 0; k < n; k++) {
            for (int u = 0; u < n; u++) {
                for (int v = 0; v < n; v++) {
                    if (w[u][k] < far && w[k][v] < far) {
                        relax(w, d, u, v, w[u][k] + w[k][v], d[u][k] + d[k][v]);
                    }
                }
            }
        }
        TreeSet<Integer> candidates = new TreeSet<>();
        period = 0;
        int slowest = 0;
        for (int u = 0; u < n; u++) {
            slowest = Math.max(slowest, delay(names.get(u)));
            candidates.add(delay(names.get(u)));
            for (int v = 0; v < n; v++) {
                if (w[u][v] < far) {
                    d[u][v] += delay(names.get(v));
                    candidates.add(d[u][v]);
                    period = w[u][v] == 0 ? Math.max(period, d[u][v]) : period;
                }
            }
        }
        period = Math.max(period, slowest);
        candidates.add(0);
        for (int wanted : candidates) {
            int[] fewest = wanted < slowest ? null : solve(names, w, d, wanted);
            if (fewest != null) {
                shortest = wanted;
                moves = new HashMap<>();
                for (int u = 0; u < n; u++) {
                    moves.put(names.get(u), fewest[u]);
                }
                break;
            }
        }
        moveAll();
    }

    private static void relax(int[][] w, int[][] d, int u, int v, int latches, int delay) {
        if (latches < w[u][v] || latches == w[u][v] && delay > d[u][v]) {
            w[u][v] = latches;
            d[u][v] = delay;
        }
    }

    /** The least moves with moves(u) >= moves(v) - W, one more where D is above what is wanted. */
    private int[] solve(List<Integer> names, int[][] w, int[][] d, int wanted) {
        int n = names.size();
        int[] least = new int[n];
        for (int round = 0; round <= n + 1; round++) {
            boolean grown = false;
            for (int u = 0; u < n; u++) {
                for (int v = 0; v < n; v++) {
                    int need = least[v] - w[u][v] + (d[u][v] > wanted ? 1 : 0);
                    if (need > least[u]) {
                        least[u] = need;
                        grown = true;
                    }
                }
            }
            if (grown && round == n + 1) {
                return null;
            }
        }
        for (Wire wire : wires.values()) {
            if (wire.target >= 0 && !gates.containsKey(wire.source) && least[names.indexOf(wire.target)] > wire.length) {
                return null;
            }
        }
        return least;
    }

    private void moveAll() {
        Map<Integer, Integer> left = new HashMap<>(moves);
        boolean moved = true;
        while (moved) {
            moved = false;
            for (int gate : gates.descendingKeySet()) {
                while (left.get(gate) > 0 && canMove(gate, wires)) {
                    left.put(gate, left.get(gate) - 1);
                    moveAt(gate, wires);
                    moved = true;
                }
            }
        }
        if (left.values().stream().anyMatch(m -> m != 0)) {
            throw new IllegalStateException("moves are left over");
        }
    }

    boolean canMove(int gate, Map<String, Wire> in) {
        for (int pin = 0; pin < gates.get(gate).pins.size(); pin++) {
            if (in.get(gate + "." + pin).initial.isEmpty()) {
                return false;
            }
        }
        return true;
    }

    void moveAt(int gate, Map<String, Wire> in) {
        List<Integer> taken = new ArrayList<>();
        for (int pin = 0; pin < gates.get(gate).pins.size(); pin++) {
            taken.add(in.get(gate + "." + pin).initial.removeLast());
        }
        int value = value(gate, taken);
        in.values().stream().filter(w -> w.source == gate).forEach(w -> w.initial.addFirst(value));
    }

    private int value(int gate, List<Integer> pins) {
        return value(cells.get(gates.get(gate).cell).tree, pins.iterator());
    }

    private static int value(Tree tree, java.util.Iterator<Integer> pins) {
        if (tree.parts.isEmpty()) {
            return pins.next();
        }
        int all = 1;
        for (Tree part : tree.parts) {
            all &= value(part, pins);
        }
        return 1 - all;
    }

    int area() {
        return mapped ? gates.values().stream().mapToInt(c -> cells.get(c.cell).area).sum() : -6;
    }

    int cellAt(int node) {
        return !mapped ? -6 : gates.containsKey(node) ? gates.get(node).cell : -1;
    }

    int period() {
        return mapped ? period : -6;
    }

    int shortest() {
        return mapped ? shortest : -6;
    }

    int moves(int node) {
        return mapped ? moves.containsKey(node) && gates.containsKey(node) ? moves.get(node) : -1 : -6;
    }

    long latches(int node, int pin) {
        if (!mapped) {
            return -6;
        }
        Wire wire = wires.get(node + "." + pin);
        if (wire == null) {
            return -1;
        }
        long answer = wire.initial.size();
        long weight = 64;
        for (int value : wire.initial) {
            answer += weight * value;
            weight *= 2;
        }
        return answer;
    }

    int clock(int inputs) {
        if (isUndriven()) {
            return -3;
        }
        int[] values = new int[nets.size()];
        int seen = 0;
        for (int net = 0; net < values.length; net++) {
            Net now = nets.get(net);
            if (now.kind == 'i') {
                values[net] = (inputs >>> seen++) & 1;
            } else if (now.kind == 'l') {
                values[net] = now.present;
            } else {
                int row = 0;
                for (int k = 0; k < now.arguments.length; k++) {
                    row += values[now.arguments[k]] << k;
                }
                values[net] = (now.table >> row) & 1;
            }
        }
        nets.stream().filter(n -> n.kind == 'l').forEach(n -> n.present = values[n.driver]);
        int answer = 0;
        for (int output = 0; output < outputs.size(); output++) {
            answer |= values[outputs.get(output)] << output;
        }
        return answer;
    }

    int clockRetimed(int inputs) {
        if (!mapped) {
            return -6;
        }
        Map<Integer, Integer> values = new HashMap<>();
        int seen = 0;
        for (Net net : nets) {
            if (net.kind == 'i') {
                values.put(net.node, (inputs >>> seen++) & 1);
            }
        }
        gates.keySet().forEach(g -> gateValue(g, values));
        int answer = 0;
        for (int output = 0; output < outputs.size(); output++) {
            answer |= arriving(wires.get("-1." + output), values) << output;
        }
        for (Wire wire : wires.values()) {
            wire.present.addFirst(values.get(wire.source));
            wire.present.removeLast();
        }
        return answer;
    }

    private int gateValue(int gate, Map<Integer, Integer> values) {
        if (!values.containsKey(gate)) {
            List<Integer> pins = new ArrayList<>();
            for (int pin = 0; pin < gates.get(gate).pins.size(); pin++) {
                pins.add(arriving(wires.get(gate + "." + pin), values));
            }
            values.put(gate, value(gate, pins));
        }
        return values.get(gate);
    }

    private int arriving(Wire wire, Map<Integer, Integer> values) {
        if (!wire.present.isEmpty()) {
            return wire.present.getLast();
        }
        return gates.containsKey(wire.source) ? gateValue(wire.source, values) : values.get(wire.source);
    }

    void reset() {
        nets.forEach(n -> n.present = n.initial);
        if (mapped) {
            reset(wires);
        }
    }
}
