/**
 * The sentences of "What it is" and "Terms", in the document's order. What the document says by
 * AND and NOT alone is made so, call by call, in a second object, and both must be one net.
 */
public final class TermsTest {
    private static final Check CHECK = new Check();

    public static void main(String[] args) {
        atMost512Calls();
        nodeZeroIsFalse();
        numberedAsTheyCome();
        aLiteralIsANodeOrTheOtherValueOfIt();
        aGateIsOneIfBothAre();
        andWithoutAGate();
        andIsTheGateOfBoth();
        orXorAndChooseAreMadeOfAnds();
        whatStandsFirstIsMadeFirst();
        theTwinsInputs();
        theTwinIsMadeAsTold();
        falseHasTheValueAndTheTaintFalse();
        zeroAtFirst();
        bitsComeFromTheInputs();
        theLimits();
        CHECK.end();
    }

    /** "An object is used for at most 512 calls": the last of them answers as the first. */
    private static void atMost512Calls() {
        NetTwin x = Check.withInputs(64);
        int calls = 64;
        int last = 2;
        for (int i = 2; i <= 64; i++) {
            last = x.xor(last, 2 * i);
            calls++;
        }
        CHECK.due("nodes(false)", x.nodes(false), 1 + 64 + 3 * 63);
        for (int i = 0; i < 64; i++) {
            x.set(i, false, 1);
        }
        x.set(20, true, 1);
        CHECK.due("twin()", x.twin(), 1 + 128 + 17 * 63);
        int taint = x.twinOf(last, true);
        calls += 1 + 64 + 1 + 1 + 1;
        int before = 1;
        for (; calls < 508; calls++) {
            CHECK.due("set(0, false, ..), call " + (calls + 1), x.set(0, false, calls & 1), before);
            before = calls & 1;
        }
        CHECK.due("bit(false, last), call 509", x.bit(false, last), 0);
        CHECK.due("bit(true, taint), call 510", x.bit(true, taint), 1);
        CHECK.due("hangs(last), call 511", x.hangs(last), 1);
        CHECK.due("xor(last, 2), call 512", x.xor(last, 2), 2 * 256 + 1);
    }

    private static void nodeZeroIsFalse() {
        NetTwin x = small();
        for (int setting = 0; setting < 64; setting++) {
            setAll(x, setting);
            CHECK.due("bit(false, 0)", x.bit(false, 0), 0);
            CHECK.due("bit(true, 0)", x.bit(true, 0), 0);
            CHECK.due("bit(false, 1), which is TRUE", x.bit(false, 1), 1);
            CHECK.due("bit(true, 1), which is TRUE", x.bit(true, 1), 1);
        }
    }

    /** Three inputs, the last behind a gate, some ten gates, and the twin. */
    private static NetTwin small() {
        NetTwin x = Check.withInputs(2);
        int and = x.and(2, 5);
        int third = x.input();
        int xor = x.xor(third, 4);
        int or = x.or(and, 3);
        int choose = x.choose(xor, or, third ^ 1);
        x.and(choose, xor ^ 1);
        x.twin();
        return x;
    }

    private static void setAll(NetTwin x, int setting) {
        for (int i = 0; i < 3; i++) {
            x.set(i, false, setting >> i & 1);
            x.set(i, true, setting >> (3 + i) & 1);
        }
    }

    private static void numberedAsTheyCome() {
        NetTwin x = new NetTwin();
        CHECK.due("input(), node 1", x.input(), 2);
        CHECK.due("input(), node 2", x.input(), 4);
        CHECK.due("and(2, 4), node 3", x.and(2, 4), 6);
        CHECK.due("input(), node 4", x.input(), 8);
        CHECK.due("and(8, 6), node 5", x.and(8, 6), 10);
        CHECK.due("or(10, 2), node 6", x.or(10, 2), 13);
        CHECK.due("input(), node 7", x.input(), 14);
        CHECK.due("nodes(false)", x.nodes(false), 8);
    }

    private static void aLiteralIsANodeOrTheOtherValueOfIt() {
        NetTwin x = small();
        for (int setting = 0; setting < 64; setting++) {
            setAll(x, setting);
            otherValues(x, false);
            otherValues(x, true);
        }
    }

    private static void otherValues(NetTwin x, boolean ofTwin) {
        for (int node = 0; node < x.nodes(ofTwin); node++) {
            String of = "(" + ofTwin + ", " + (2 * node + 1) + ")";
            CHECK.due("bit" + of, x.bit(ofTwin, 2 * node + 1), 1 - x.bit(ofTwin, 2 * node));
        }
    }

    private static void aGateIsOneIfBothAre() {
        NetTwin x = small();
        for (int setting = 0; setting < 64; setting++) {
            setAll(x, setting);
            bothAre(x, false);
            bothAre(x, true);
        }
    }

    private static void bothAre(NetTwin x, boolean ofTwin) {
        int gates = 0;
        for (int node = 0; node < x.nodes(ofTwin); node++) {
            int lesser = x.gate(ofTwin, node, 0);
            int other = x.gate(ofTwin, node, 1);
            if (lesser != -1) {
                gates++;
                CHECK.holds("lesser first, below the gate", lesser < other && other < 2 * node);
                int want = x.bit(ofTwin, lesser) == 1 && x.bit(ofTwin, other) == 1 ? 1 : 0;
                CHECK.due("bit(" + ofTwin + ", " + 2 * node + ")", x.bit(ofTwin, 2 * node), want);
            }
        }
        CHECK.due("gates " + ofTwin, gates, x.nodes(ofTwin) - 1 - (ofTwin ? 6 : 3));
    }

    /** "FALSE if one of them is 0, or ..; a if b is 1 or a; b if a is 1": each of all literals. */
    private static void andWithoutAGate() {
        NetTwin x = small();
        int nodes = x.nodes(false);
        int twinNodes = x.nodes(true);
        for (int a = 0; a < 2 * nodes; a++) {
            CHECK.due("and(0, " + a + ")", x.and(0, a), 0);
            CHECK.due("and(" + a + ", 0)", x.and(a, 0), 0);
            CHECK.due("and(" + a + ", its other value)", x.and(a, a ^ 1), 0);
            CHECK.due("and(" + a + ", 1)", x.and(a, 1), a);
            CHECK.due("and(" + a + ", itself)", x.and(a, a), a);
            CHECK.due("and(1, " + a + ")", x.and(1, a), a);
        }
        CHECK.due("nodes(false)", x.nodes(false), nodes);
        CHECK.due("nodes(true)", x.nodes(true), twinNodes);
    }

    /** "otherwise the gate of both, the lesser literal first, that there is, or a new node". */
    private static void andIsTheGateOfBoth() {
        NetTwin x = Check.withInputs(5);
        for (int a = 2; a < 12; a++) {
            for (int b = 2; b < 12; b++) {
                if (a / 2 < b / 2) {
                    int gate = 2 * x.nodes(false);
                    CHECK.due("and(" + b + ", " + a + "), new", x.and(b, a), gate);
                    CHECK.due("and(" + a + ", " + b + "), there", x.and(a, b), gate);
                    CHECK.due("its lesser", x.gate(false, gate / 2, 0), a);
                    CHECK.due("its other", x.gate(false, gate / 2, 1), b);
                }
            }
        }
        CHECK.due("nodes(false)", x.nodes(false), 1 + 5 + 40);
        for (int gate = 12; gate < 92; gate += 2) {
            CHECK.due("each is there once", x.and(x.gate(false, gate / 2, 1), x.gate(false, gate / 2, 0)), gate);
        }
    }

    private static int orByAnd(NetTwin y, int a, int b) {
        return y.and(a ^ 1, b ^ 1) ^ 1;
    }

    private static int xorByAnd(NetTwin y, int a, int b) {
        int first = y.and(a, b ^ 1);
        int second = y.and(a ^ 1, b);
        return orByAnd(y, first, second);
    }

    private static int chooseByAnd(NetTwin y, int c, int a, int b) {
        int first = y.and(c, a);
        int second = y.and(c ^ 1, b);
        return orByAnd(y, first, second);
    }

    private static void orXorAndChooseAreMadeOfAnds() {
        for (int c = 0; c < 10; c++) {
            for (int a = 0; a < 10; a++) {
                for (int b = 0; b < 10; b++) {
                    madeOfAnds(c, a, b);
                }
            }
        }
    }

    /** Literals 8 and 9 are of a gate that stands before; the other ones of inputs, FALSE, TRUE. */
    private static void madeOfAnds(int c, int a, int b) {
        NetTwin x = Check.withInputs(3);
        NetTwin y = Check.withInputs(3);
        x.and(2, 5);
        y.and(2, 5);
        String of = "(" + a + ", " + b + ")";
        CHECK.due("or" + of, x.or(a, b), orByAnd(y, a, b));
        CHECK.due("xor" + of, x.xor(a, b), xorByAnd(y, a, b));
        CHECK.due("choose of " + c + " " + of, x.choose(c, a, b), chooseByAnd(y, c, a, b));
        sameGates("after or, xor, choose of " + c + " " + of, x, false, y);
    }

    private static void sameGates(String what, NetTwin x, boolean ofTwin, NetTwin y) {
        CHECK.due(what + ": nodes(" + ofTwin + ")", x.nodes(ofTwin), y.nodes(false));
        for (int node = 0; node < y.nodes(false); node++) {
            String of = what + ": gate(" + ofTwin + ", " + node + ", ";
            CHECK.due(of + "0)", x.gate(ofTwin, node, 0), y.gate(false, node, 0));
            CHECK.due(of + "1)", x.gate(ofTwin, node, 1), y.gate(false, node, 1));
        }
    }

    private static void whatStandsFirstIsMadeFirst() {
        NetTwin x = Check.withInputs(3);
        CHECK.due("xor(6, 2)", x.xor(6, 2), 13);
        checkGate(x, 4, 3, 6);
        checkGate(x, 5, 2, 7);
        checkGate(x, 6, 9, 11);
        CHECK.due("choose(5, 6, 3)", x.choose(5, 6, 3), 19);
        checkGate(x, 7, 5, 6);
        checkGate(x, 8, 3, 4);
        checkGate(x, 9, 15, 17);
    }

    private static void checkGate(NetTwin x, int node, int lesser, int other) {
        CHECK.due("gate(false, " + node + ", 0)", x.gate(false, node, 0), lesser);
        CHECK.due("gate(false, " + node + ", 1)", x.gate(false, node, 1), other);
    }

    /** "first inputs as many as the net has, in the same order ..; then as many more, their TAINTS". */
    private static void theTwinsInputs() {
        NetTwin x = small();
        int[] inputs = {2, 4, 8};
        for (int i = 0; i < 3; i++) {
            CHECK.due("twinOf(" + inputs[i] + ", false)", x.twinOf(inputs[i], false), 2 * (1 + i));
            CHECK.due("twinOf(" + inputs[i] + ", true)", x.twinOf(inputs[i], true), 2 * (4 + i));
            CHECK.due("gate(true, " + (1 + i) + ", 0)", x.gate(true, 1 + i, 0), -1);
            CHECK.due("gate(true, " + (4 + i) + ", 0)", x.gate(true, 4 + i, 0), -1);
        }
        CHECK.due("gate(true, 7, 0), the first gate's value", x.gate(true, 7, 0), 2);
        CHECK.due("gate(true, 7, 1), the first gate's value", x.gate(true, 7, 1), 5);
    }

    /** "Then for each gate of the net, in order": made anew in a second object, gate by gate. */
    private static void theTwinIsMadeAsTold() {
        sameAsTold(small(), 3);
        sameAsTold(new NetTwin(), 0);
        sameAsTold(Check.withInputs(7), 7);
        NetTwin ripple = Check.withInputs(6);
        int carry = 0;
        for (int i = 1; i <= 3; i++) {
            int sum = ripple.xor(2 * i, 2 * i + 6);
            int next = ripple.or(ripple.and(2 * i, 2 * i + 6), ripple.and(carry, sum));
            ripple.xor(sum, carry);
            carry = next;
        }
        sameAsTold(ripple, 6);
        NetTwin corners = Check.withInputs(2);
        int[] of = {corners.and(2, 4), corners.and(3, 5), corners.and(2, 5), corners.and(3, 4)};
        for (int k = 0; k < 4; k++) {
            corners.and(of[k], of[(k + 1) % 4] ^ 1);
            corners.and(of[k] ^ 1, of[(k + 2) % 4] ^ 1);
            corners.and(of[k] ^ 1, 2);
        }
        sameAsTold(corners, 2);
    }

    private static void sameAsTold(NetTwin x, int inputs) {
        NetTwin y = Check.withInputs(2 * inputs);
        int nodes = x.nodes(false);
        int[] value = new int[nodes];
        int[] taint = new int[nodes];
        int seen = 0;
        for (int node = 1; node < nodes; node++) {
            if (x.gate(false, node, 0) == -1) {
                seen++;
                value[node] = 2 * seen;
                taint[node] = 2 * (inputs + seen);
            } else {
                madeAsTold(x, y, node, value, taint);
            }
        }
        CHECK.due("inputs", seen, inputs);
        CHECK.due("twin()", x.twin(), y.nodes(false));
        sameGates("the twin", x, true, y);
        for (int literal = 0; literal < 2 * nodes; literal++) {
            int of = value[literal / 2] ^ (literal & 1);
            CHECK.due("twinOf(" + literal + ", false)", x.twinOf(literal, false), of);
            CHECK.due("twinOf(" + literal + ", true)", x.twinOf(literal, true), taint[literal / 2]);
        }
    }

    private static void madeAsTold(NetTwin x, NetTwin y, int node, int[] value, int[] taint) {
        int a = x.gate(false, node, 0);
        int b = x.gate(false, node, 1);
        int aValue = value[a / 2] ^ (a & 1);
        int bValue = value[b / 2] ^ (b & 1);
        int aTaint = taint[a / 2];
        int bTaint = taint[b / 2];
        value[node] = y.and(aValue, bValue);
        int one = y.and(aTaint, bValue);
        int two = y.and(bTaint, aValue);
        int either = orByAnd(y, one, two);
        taint[node] = orByAnd(y, either, y.and(aTaint, bTaint));
    }

    private static void falseHasTheValueAndTheTaintFalse() {
        NetTwin x = small();
        CHECK.due("twinOf(0, false)", x.twinOf(0, false), 0);
        CHECK.due("twinOf(1, false)", x.twinOf(1, false), 1);
        CHECK.due("twinOf(0, true)", x.twinOf(0, true), 0);
        CHECK.due("twinOf(1, true)", x.twinOf(1, true), 0);
        setAll(x, 63);
        CHECK.due("taint(0)", x.taint(0), 0);
        CHECK.due("taint(1)", x.taint(1), 0);
    }

    /** "Each input has a bit and a taint, 0 at first": also one that comes later. */
    private static void zeroAtFirst() {
        NetTwin x = Check.withInputs(63);
        for (int i = 0; i < 63; i++) {
            CHECK.due("set(" + i + ", false, 1)", x.set(i, false, 1), 0);
            CHECK.due("set(" + i + ", true, 1)", x.set(i, true, 1), 0);
        }
        CHECK.due("input()", x.input(), 128);
        CHECK.due("bit(false, 128)", x.bit(false, 128), 0);
        CHECK.due("taint(128)", x.taint(128), 0);
        CHECK.due("set(63, false, 0)", x.set(63, false, 0), 0);
        CHECK.due("set(63, true, 0)", x.set(63, true, 0), 0);
    }

    /** The twin as a net of its own: with the bits and taints at its inputs, its bits are these. */
    private static void bitsComeFromTheInputs() {
        NetTwin x = small();
        NetTwin y = Check.withInputs(6);
        for (int node = 7; node < x.nodes(true); node++) {
            CHECK.due("and(..) of a twin's gate", y.and(x.gate(true, node, 0), x.gate(true, node, 1)), 2 * node);
        }
        for (int setting = 0; setting < 64; setting++) {
            setAll(x, setting);
            for (int i = 0; i < 6; i++) {
                y.set(i, false, setting >> i & 1);
            }
            for (int literal = 0; literal < 2 * x.nodes(true); literal++) {
                CHECK.due("bit(true, " + literal + "), " + setting, x.bit(true, literal), y.bit(false, literal));
            }
            for (int literal = 0; literal < 2 * x.nodes(false); literal++) {
                int value = y.bit(false, x.twinOf(literal, false));
                int taint = y.bit(false, x.twinOf(literal, true));
                CHECK.due("bit(false, " + literal + "), " + setting, x.bit(false, literal), value);
                CHECK.due("taint(" + literal + "), " + setting, x.taint(literal), taint);
            }
        }
    }

    /** "64 inputs, 400 gates, and 1500 gates of a twin": all that there may be, and not one more. */
    private static void theLimits() {
        NetTwin x = Check.withInputs(64);
        Check.andPairs(x, 64, 250);
        CHECK.due("twin() of 1500 gates", x.twin(), 1 + 128 + 1500);
        Check.andPairs(x, 64, 400);
        CHECK.due("nodes(false)", x.nodes(false), 1 + 64 + 400);
        CHECK.due("input() 65", x.input(), -1);
        CHECK.due("and(3, 5), gate 401", x.and(3, 5), -1);
        CHECK.due("twin()", x.twin(), -1);
        CHECK.due("bit(false, 929), the last literal", x.bit(false, 929), 1);
        CHECK.due("bit(false, 930)", x.bit(false, 930), -1);
    }
}
