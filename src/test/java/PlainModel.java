import java.util.ArrayList;
import java.util.HashMap;
import java.util.List;
import java.util.Map;

/** The document said over again in the plainest way, to compare the program with. */
final class PlainModel {
    private static final int NONE = -1;

    /** A net that keeps its gates in a map, and works out bits by walking down from a literal. */
    private static final class Graph {
        final List<int[]> gates = new ArrayList<>();
        final Map<Long, Integer> known = new HashMap<>();
        final List<Integer> inputs = new ArrayList<>();
        final int room;

        Graph(int room) {
            this.room = room;
            gates.add(null);
        }

        int addInput() {
            inputs.add(gates.size());
            gates.add(null);
            return 2 * (gates.size() - 1);
        }

        boolean has(int literal) {
            return literal >= 0 && literal / 2 < gates.size();
        }

        /** Throws when there is no room. */
        int and(int a, int b) {
            if (a == 0 || b == 0 || (a / 2 == b / 2 && a != b)) {
                return 0;
            }
            if (b == 1 || b == a) {
                return a;
            }
            if (a == 1) {
                return b;
            }
            long key = Math.min(a, b) * 1000000L + Math.max(a, b);
            Integer found = known.get(key);
            if (found != null) {
                return found;
            }
            if (known.size() == room) {
                throw new IllegalStateException("no room");
            }
            gates.add(new int[] {Math.min(a, b), Math.max(a, b)});
            known.put(key, 2 * (gates.size() - 1));
            return 2 * (gates.size() - 1);
        }

        int or(int a, int b) {
            return and(a ^ 1, b ^ 1) ^ 1;
        }

        boolean[] values(boolean[] ofInputs) {
            boolean[] values = new boolean[gates.size()];
            for (int i = 0; i < inputs.size(); i++) {
                values[inputs.get(i)] = ofInputs[i];
            }
            for (int node = 0; node < gates.size(); node++) {
                int[] gate = gates.get(node);
                if (gate != null) {
                    values[node] = value(values, gate[0]) && value(values, gate[1]);
                }
            }
            return values;
        }
    }

    private final Graph net = new Graph(400);
    private Graph twin = null;
    private int[] valueOf;
    private int[] taintOf;
    private final boolean[] bits = new boolean[64];
    private final boolean[] taints = new boolean[64];

    private static boolean value(boolean[] values, int literal) {
        return values[literal / 2] ^ (literal % 2 == 1);
    }

    int input() {
        if (net.inputs.size() == 64) {
            return NONE;
        }
        twin = null;
        return net.addInput();
    }

    /** Kind 0 is and, 1 or, 2 xor, 3 choose (of c, a, b). */
    int make(int kind, int c, int a, int b) {
        if (!net.has(a) || !net.has(b) || (kind == 3 && !net.has(c))) {
            return NONE;
        }
        int before = net.gates.size();
        int made;
        try {
            if (kind == 0) {
                made = net.and(a, b);
            } else if (kind == 1) {
                made = net.or(a, b);
            } else if (kind == 2) {
                made = net.or(net.and(a, b ^ 1), net.and(a ^ 1, b));
            } else {
                made = net.or(net.and(c, a), net.and(c ^ 1, b));
            }
        } catch (IllegalStateException noRoom) {
            made = NONE;
        }
        if (net.gates.size() != before) {
            twin = null;
        }
        return made;
    }

    int nodes(boolean ofTwin) {
        return ofTwin ? (twin == null ? 0 : twin.gates.size()) : net.gates.size();
    }

    int gate(boolean ofTwin, int node, int which) {
        if (node < 0 || node >= nodes(ofTwin) || which < 0 || which > 1) {
            return NONE;
        }
        int[] gate = (ofTwin ? twin : net).gates.get(node);
        return gate == null ? NONE : gate[which];
    }

    int twin() {
        Graph made = new Graph(1500);
        valueOf = new int[net.gates.size()];
        taintOf = new int[net.gates.size()];
        for (int node : net.inputs) {
            valueOf[node] = made.addInput();
        }
        for (int node : net.inputs) {
            taintOf[node] = made.addInput();
        }
        twin = null;
        try {
            for (int node = 0; node < net.gates.size(); node++) {
                if (net.gates.get(node) != null) {
                    twinGate(made, node);
                }
            }
        } catch (IllegalStateException noRoom) {
            return NONE;
        }
        twin = made;
        return made.gates.size();
    }

    private void twinGate(Graph made, int node) {
        int[] gate = net.gates.get(node);
        int a = valueOf[gate[0] / 2] ^ (gate[0] % 2);
        int b = valueOf[gate[1] / 2] ^ (gate[1] % 2);
        int aTaint = taintOf[gate[0] / 2];
        int bTaint = taintOf[gate[1] / 2];
        valueOf[node] = made.and(a, b);
        taintOf[node] =
                made.or(made.or(made.and(aTaint, b), made.and(bTaint, a)), made.and(aTaint, bTaint));
    }

    int twinOf(int literal, boolean taint) {
        if (twin == null || !net.has(literal)) {
            return NONE;
        }
        return taint ? taintOf[literal / 2] : valueOf[literal / 2] ^ (literal % 2);
    }

    int set(int i, boolean taint, int bit) {
        if (i < 0 || i >= net.inputs.size()) {
            return NONE;
        }
        boolean[] row = taint ? taints : bits;
        int before = row[i] ? 1 : 0;
        row[i] = bit != 0;
        return before;
    }

    int bit(boolean ofTwin, int literal) {
        Graph asked = ofTwin ? twin : net;
        if (asked == null || !asked.has(literal)) {
            return NONE;
        }
        boolean[] ofInputs = bits;
        if (ofTwin) {
            int inputs = net.inputs.size();
            ofInputs = new boolean[2 * inputs];
            System.arraycopy(bits, 0, ofInputs, 0, inputs);
            System.arraycopy(taints, 0, ofInputs, inputs, inputs);
        }
        return value(asked.values(ofInputs), literal) ? 1 : 0;
    }

    int taint(int literal) {
        if (!net.has(literal)) {
            return NONE;
        }
        boolean[] values = net.values(bits);
        boolean[] tainted = net.values(taints);
        for (int node = 0; node < net.gates.size(); node++) {
            int[] gate = net.gates.get(node);
            if (gate != null) {
                boolean a = tainted[gate[0] / 2];
                boolean b = tainted[gate[1] / 2];
                tainted[node] = (a && value(values, gate[1])) || (b && value(values, gate[0])) || (a && b);
            }
        }
        return tainted[literal / 2] ? 1 : 0;
    }

    int hangs(int literal) {
        List<Integer> tainted = new ArrayList<>();
        for (int i = 0; i < net.inputs.size(); i++) {
            if (taints[i]) {
                tainted.add(i);
            }
        }
        if (!net.has(literal) || tainted.size() > 8) {
            return NONE;
        }
        int now = bit(false, literal);
        boolean[] tried = bits.clone();
        for (int way = 0; way < 1 << tainted.size(); way++) {
            for (int k = 0; k < tainted.size(); k++) {
                tried[tainted.get(k)] = (way >> k & 1) == 1;
            }
            if ((value(net.values(tried), literal) ? 1 : 0) != now) {
                return 1;
            }
        }
        return 0;
    }
}
