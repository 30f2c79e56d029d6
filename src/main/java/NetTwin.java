/**
 * A net of gates, each made once, its twin, which carries beside each bit whether it may hang on
 * inputs that are tainted, and the bits of both for inputs and taints that are set.
 *
 * <p>All rows are made with the object and used again, so that no call makes anything.
 */
public final class NetTwin {
    public static final int NONE = -1;

    private static final int FALSE = 0;
    private static final int MOST_INPUTS = 64;
    private static final int MOST_GATES = 400;
    private static final int MOST_TWIN_GATES = 1500;
    private static final int MOST_TAINTED = 8;

    /** The settings of six inputs, side by side in the 64 bits of a word: one row an input. */
    private static final long[] SETTINGS = {
        0xAAAAAAAAAAAAAAAAL,
        0xCCCCCCCCCCCCCCCCL,
        0xF0F0F0F0F0F0F0F0L,
        0xFF00FF00FF00FF00L,
        0xFFFF0000FFFF0000L,
        0xFFFFFFFF00000000L
    };

    /** Six tainted inputs fit into a word; the other two are set anew in each of four rounds. */
    private static final int ROUNDS = 4;

    private final Net net;
    private final Net twin;

    /** How many nodes the net had when the twin was made; NONE if it could not be made. */
    private int twinnedNodes;

    /** The twin's literals for the value and the taint of each node of the net. */
    private final int[] valueLiteral;
    private final int[] taintLiteral;

    private final int[] inputBit;
    private final int[] inputTaint;
    private final long[] taintWord;

    public NetTwin() {
        net = new Net(MOST_INPUTS, MOST_GATES);
        twin = new Net(2 * MOST_INPUTS, MOST_TWIN_GATES);
        twinnedNodes = NONE;
        valueLiteral = new int[1 + MOST_INPUTS + MOST_GATES];
        taintLiteral = new int[1 + MOST_INPUTS + MOST_GATES];
        inputBit = new int[MOST_INPUTS];
        inputTaint = new int[MOST_INPUTS];
        taintWord = new long[1 + MOST_INPUTS + MOST_GATES];
    }

    public int input() {
        return net.addInput();
    }

    public int and(int a, int b) {
        return net.both(a, b);
    }

    public int or(int a, int b) {
        return net.either(a, b);
    }

    public int xor(int a, int b) {
        int onlyA = net.both(a, not(b));
        int onlyB = net.both(not(a), b);
        return net.either(onlyA, onlyB);
    }

    public int choose(int c, int a, int b) {
        // The first gate must not be made when the literal of a later one is missing.
        if (!net.holds(c) || !net.holds(a) || !net.holds(b)) {
            return NONE;
        }
        int whenTrue = net.both(c, a);
        int whenFalse = net.both(not(c), b);
        return net.either(whenTrue, whenFalse);
    }

    public int nodes(boolean ofTwin) {
        if (!ofTwin) {
            return net.nodeCount;
        }
        return twinStands() ? twin.nodeCount : 0;
    }

    public int gate(boolean ofTwin, int node, int which) {
        if (node < 0 || node >= nodes(ofTwin)) {
            return NONE;
        }
        Net asked = ofTwin ? twin : net;
        if (which == 0) {
            return asked.lesser[node];
        }
        return which == 1 ? asked.other[node] : NONE;
    }

    public int twin() {
        if (!twinStands()) {
            twinnedNodes = buildTwin() ? net.nodeCount : NONE;
        }
        return twinStands() ? twin.nodeCount : NONE;
    }

    public int twinOf(int literal, boolean taint) {
        if (!twinStands() || !net.holds(literal)) {
            return NONE;
        }
        return taint ? taintLiteral[literal >> 1] : valueInTwin(literal);
    }

    public int set(int i, boolean taint, int bit) {
        if (i < 0 || i >= net.inputCount) {
            return NONE;
        }
        int[] row = taint ? inputTaint : inputBit;
        int before = row[i];
        row[i] = bit == 0 ? 0 : 1;
        return before;
    }

    public int bit(boolean ofTwin, int literal) {
        if (ofTwin) {
            if (!twinStands() || !twin.holds(literal)) {
                return NONE;
            }
            spreadTwin();
            return bitOf(twin.wordOf(literal));
        }
        if (!net.holds(literal)) {
            return NONE;
        }
        spreadNet();
        return bitOf(net.wordOf(literal));
    }

    public int taint(int literal) {
        if (!net.holds(literal)) {
            return NONE;
        }
        spreadNet();
        spreadTaints();
        return bitOf(taintWord[literal >> 1]);
    }

    public int hangs(int literal) {
        if (!net.holds(literal) || countTainted() > MOST_TAINTED) {
            return NONE;
        }
        spreadNet();
        long now = net.wordOf(literal);
        for (int round = 0; round < ROUNDS; round++) {
            setTaintedInputs(round);
            net.spread();
            if (net.wordOf(literal) != now) {
                return 1;
            }
        }
        return 0;
    }

    /** A net only grows: while it has as many nodes as when the twin was made, it is the same. */
    private boolean twinStands() {
        return twinnedNodes == net.nodeCount;
    }

    /** Whether the twin had room; if not, what was made of it is no twin. */
    private boolean buildTwin() {
        twin.clear();
        twinInputs();
        for (int node = 0; node < net.nodeCount; node++) {
            if (net.isGate(node) && !twinGate(node)) {
                return false;
            }
        }
        return true;
    }

    private void twinInputs() {
        valueLiteral[0] = FALSE;
        taintLiteral[0] = FALSE;
        for (int i = 0; i < net.inputCount; i++) {
            valueLiteral[net.inputNode[i]] = twin.addInput();
        }
        for (int i = 0; i < net.inputCount; i++) {
            taintLiteral[net.inputNode[i]] = twin.addInput();
        }
    }

    private boolean twinGate(int node) {
        int a = valueInTwin(net.lesser[node]);
        int b = valueInTwin(net.other[node]);
        int aTaint = taintLiteral[net.lesser[node] >> 1];
        int bTaint = taintLiteral[net.other[node] >> 1];
        int value = twin.both(a, b);
        int byA = twin.both(aTaint, b);
        int byB = twin.both(bTaint, a);
        int byOne = twin.either(byA, byB);
        int byBoth = twin.both(aTaint, bTaint);
        int taint = twin.either(byOne, byBoth);
        valueLiteral[node] = value;
        taintLiteral[node] = taint;
        return value != NONE && taint != NONE;
    }

    private int valueInTwin(int literal) {
        int value = valueLiteral[literal >> 1];
        return (literal & 1) == 0 ? value : not(value);
    }

    private void spreadNet() {
        for (int i = 0; i < net.inputCount; i++) {
            net.word[net.inputNode[i]] = wordOfBit(inputBit[i]);
        }
        net.spread();
    }

    private void spreadTwin() {
        int inputs = net.inputCount;
        for (int i = 0; i < inputs; i++) {
            twin.word[twin.inputNode[i]] = wordOfBit(inputBit[i]);
            twin.word[twin.inputNode[inputs + i]] = wordOfBit(inputTaint[i]);
        }
        twin.spread();
    }

    private void spreadTaints() {
        for (int i = 0; i < net.inputCount; i++) {
            taintWord[net.inputNode[i]] = wordOfBit(inputTaint[i]);
        }
        for (int node = 0; node < net.nodeCount; node++) {
            if (net.isGate(node)) {
                int a = net.lesser[node];
                int b = net.other[node];
                long aTaint = taintWord[a >> 1];
                long bTaint = taintWord[b >> 1];
                taintWord[node] =
                        (aTaint & net.wordOf(b)) | (bTaint & net.wordOf(a)) | (aTaint & bTaint);
            }
        }
    }

    private int countTainted() {
        int tainted = 0;
        for (int i = 0; i < net.inputCount; i++) {
            tainted += inputTaint[i];
        }
        return tainted;
    }

    private void setTaintedInputs(int round) {
        int rank = 0;
        for (int i = 0; i < net.inputCount; i++) {
            if (inputTaint[i] == 1) {
                net.word[net.inputNode[i]] = settingsOf(rank, round);
                rank++;
            }
        }
    }

    private static long settingsOf(int rank, int round) {
        if (rank < SETTINGS.length) {
            return SETTINGS[rank];
        }
        return wordOfBit((round >> (rank - SETTINGS.length)) & 1);
    }

    private static long wordOfBit(int bit) {
        return bit == 0 ? 0L : -1L;
    }

    private static int bitOf(long word) {
        return (word & 1L) == 0L ? 0 : 1;
    }

    /** NONE stays NONE, so that a refusal runs through to the end of a longer making. */
    private static int not(int literal) {
        return literal == NONE ? NONE : literal ^ 1;
    }

    /** Nodes in the order in which they came, and a word of 64 bits for each. */
    private static final class Net {
        private final int mostInputs;
        private final int mostGates;

        /** The literals of each gate; NONE for the other nodes. */
        private final int[] lesser;
        private final int[] other;

        private final int[] inputNode;
        private final long[] word;
        private int nodeCount;
        private int inputCount;

        private Net(int mostInputs, int mostGates) {
            this.mostInputs = mostInputs;
            this.mostGates = mostGates;
            lesser = new int[1 + mostInputs + mostGates];
            other = new int[1 + mostInputs + mostGates];
            inputNode = new int[mostInputs];
            word = new long[1 + mostInputs + mostGates];
            lesser[0] = NONE;
            other[0] = NONE;
            nodeCount = 1;
        }

        /** Leaves node 0 alone, which never changes. */
        private void clear() {
            nodeCount = 1;
            inputCount = 0;
        }

        private boolean holds(int literal) {
            return literal >= 0 && literal < 2 * nodeCount;
        }

        private boolean isGate(int node) {
            return lesser[node] != NONE;
        }

        private int addInput() {
            if (inputCount >= mostInputs) {
                return NONE;
            }
            inputNode[inputCount] = nodeCount;
            inputCount++;
            return addNode(NONE, NONE);
        }

        private int both(int a, int b) {
            if (!holds(a) || !holds(b)) {
                return NONE;
            }
            if (a == FALSE || b == FALSE || a == not(b)) {
                return FALSE;
            }
            if (b == not(FALSE) || a == b) {
                return a;
            }
            if (a == not(FALSE)) {
                return b;
            }
            return a < b ? gateOf(a, b) : gateOf(b, a);
        }

        private int either(int a, int b) {
            return not(both(not(a), not(b)));
        }

        private int gateOf(int less, int more) {
            // A gate comes after the nodes of its literals, so none before these is looked at.
            for (int node = (more >> 1) + 1; node < nodeCount; node++) {
                if (lesser[node] == less && other[node] == more) {
                    return 2 * node;
                }
            }
            int gateCount = nodeCount - 1 - inputCount;
            return gateCount >= mostGates ? NONE : addNode(less, more);
        }

        private int addNode(int less, int more) {
            int node = nodeCount;
            lesser[node] = less;
            other[node] = more;
            nodeCount++;
            return 2 * node;
        }

        private long wordOf(int literal) {
            long positive = word[literal >> 1];
            return (literal & 1) == 0 ? positive : ~positive;
        }

        /** The words of all gates, from those of the inputs. */
        private void spread() {
            for (int node = 0; node < nodeCount; node++) {
                if (isGate(node)) {
                    word[node] = wordOf(lesser[node]) & wordOf(other[node]);
                }
            }
        }
    }
}
