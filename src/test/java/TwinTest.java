/** Promises 7 to 10: nodes, gate, twin, twinOf. */
public final class TwinTest {
    private static final Check CHECK = new Check();

    public static void main(String[] args) {
        gatesAreRead();
        twinOfOneGate();
        twinSharesGates();
        twinOfInputsBehindGates();
        twinOfNothing();
        exactly1500Gates();
        tooManyGates();
        tooManyAfterATwin();
        exactly1501Gates();
        theTwinIsMadeAnew();
        xorNetOf64Inputs();
        CHECK.end();
    }

    private static void gatesAreRead() {
        NetTwin x = Check.withInputs(2);
        x.and(5, 2);
        int[] notGates = {0, 1, 2, 4, 5, -1, 465, Integer.MAX_VALUE, Integer.MIN_VALUE};
        for (int node : notGates) {
            CHECK.due("gate(false, " + node + ", 0)", x.gate(false, node, 0), -1);
            CHECK.due("gate(false, " + node + ", 1)", x.gate(false, node, 1), -1);
        }
        CHECK.due("gate(false, 3, 0)", x.gate(false, 3, 0), 2);
        CHECK.due("gate(false, 3, 1)", x.gate(false, 3, 1), 5);
        int[] notWhich = {-1, 2, 3, Integer.MAX_VALUE, Integer.MIN_VALUE};
        for (int which : notWhich) {
            CHECK.due("gate(false, 3, " + which + ")", x.gate(false, 3, which), -1);
        }
        CHECK.due("gate(true, 3, 0) without a twin", x.gate(true, 3, 0), -1);
    }

    private static void twinOfOneGate() {
        NetTwin x = Check.withInputs(2);
        x.and(3, 4);
        CHECK.due("twin()", x.twin(), 11);
        CHECK.due("twin() again", x.twin(), 11);
        CHECK.due("nodes(true)", x.nodes(true), 11);
        CHECK.due("nodes(false)", x.nodes(false), 4);
        // values 2, 4; taints 6, 8; the value, and the taint's five gates.
        int[][] gates = {{3, 4}, {4, 6}, {3, 8}, {13, 15}, {6, 8}, {16, 19}};
        for (int k = 0; k < gates.length; k++) {
            CHECK.due("gate(true, " + (5 + k) + ", 0)", x.gate(true, 5 + k, 0), gates[k][0]);
            CHECK.due("gate(true, " + (5 + k) + ", 1)", x.gate(true, 5 + k, 1), gates[k][1]);
        }
        CHECK.due("gate(true, 4, 0)", x.gate(true, 4, 0), -1);
        CHECK.due("gate(true, 11, 0)", x.gate(true, 11, 0), -1);
        CHECK.due("gate(true, -1, 1)", x.gate(true, -1, 1), -1);
        CHECK.due("gate(true, 5, 2)", x.gate(true, 5, 2), -1);
        int[] values = {0, 1, 2, 3, 4, 5, 10, 11};
        int[] taints = {0, 0, 6, 6, 8, 8, 21, 21};
        for (int literal = 0; literal < 8; literal++) {
            CHECK.due("twinOf(" + literal + ", false)", x.twinOf(literal, false), values[literal]);
            CHECK.due("twinOf(" + literal + ", true)", x.twinOf(literal, true), taints[literal]);
        }
        int[] missing = {-1, -2, 8, 9, Integer.MAX_VALUE, Integer.MIN_VALUE};
        for (int literal : missing) {
            CHECK.due("twinOf(" + literal + ", false)", x.twinOf(literal, false), -1);
            CHECK.due("twinOf(" + literal + ", true)", x.twinOf(literal, true), -1);
        }
    }

    private static void twinSharesGates() {
        NetTwin x = Check.withInputs(2);
        x.and(2, 4);
        x.and(2, 5);
        // The second gate shares AND (taint of 4, value of 2) and AND (taint, taint).
        CHECK.due("twin()", x.twin(), 1 + 4 + 6 + 4);
        CHECK.due("twinOf(8, false)", x.twinOf(8, false), 22);
        CHECK.due("twinOf(8, true)", x.twinOf(8, true), 29);
        CHECK.due("gate(true, 13, 0)", x.gate(true, 13, 0), 15);
        CHECK.due("gate(true, 13, 1)", x.gate(true, 13, 1), 25);
    }

    private static void twinOfInputsBehindGates() {
        NetTwin x = Check.withInputs(2);
        x.and(2, 4);
        x.input();
        CHECK.due("twin()", x.twin(), 1 + 6 + 6);
        CHECK.due("twinOf(8, false)", x.twinOf(8, false), 6);
        CHECK.due("twinOf(8, true)", x.twinOf(8, true), 12);
        CHECK.due("twinOf(4, true)", x.twinOf(4, true), 10);
        CHECK.due("twinOf(6, false)", x.twinOf(6, false), 14);
    }

    private static void twinOfNothing() {
        NetTwin x = new NetTwin();
        CHECK.due("nodes(true) before", x.nodes(true), 0);
        CHECK.due("twin()", x.twin(), 1);
        CHECK.due("nodes(true)", x.nodes(true), 1);
        CHECK.due("twinOf(0, true)", x.twinOf(0, true), 0);
        CHECK.due("twinOf(1, true)", x.twinOf(1, true), 0);
        CHECK.due("twinOf(1, false)", x.twinOf(1, false), 1);
        CHECK.due("twinOf(2, false)", x.twinOf(2, false), -1);
        CHECK.due("gate(true, 0, 0)", x.gate(true, 0, 0), -1);
    }

    private static void exactly1500Gates() {
        NetTwin x = Check.withInputs(23);
        int last = Check.andPairs(x, 23, 250);
        CHECK.due("twin() of 1500 gates", x.twin(), 1 + 46 + 1500);
        CHECK.due("nodes(true)", x.nodes(true), 1547);
        CHECK.due("twinOf(last, false)", x.twinOf(last, false), 2 * 1541);
        CHECK.due("twinOf(last, true)", x.twinOf(last, true), 2 * 1546 + 1);
        CHECK.due("bit(true, 3093)", x.bit(true, 3093), 0);
        CHECK.due("bit(true, 3094)", x.bit(true, 3094), -1);
        CHECK.due("gate(true, 1546, 1) is there", x.gate(true, 1546, 1) == -1 ? 0 : 1, 1);
    }

    private static void tooManyGates() {
        NetTwin x = Check.withInputs(23);
        Check.andPairs(x, 23, 250);
        x.and(2, 5);
        CHECK.due("twin() of 1504 gates", x.twin(), -1);
        CHECK.due("nodes(true)", x.nodes(true), 0);
        CHECK.due("twinOf(2, false)", x.twinOf(2, false), -1);
        CHECK.due("twinOf(2, true)", x.twinOf(2, true), -1);
        CHECK.due("bit(true, 2)", x.bit(true, 2), -1);
        CHECK.due("gate(true, 47, 0)", x.gate(true, 47, 0), -1);
        CHECK.due("twin() again", x.twin(), -1);
        CHECK.due("taint(2) without a twin", x.taint(2), 0);

        NetTwin y = Check.withInputs(23);
        Check.andPairs(y, 23, 249);
        y.and(2, 5);
        CHECK.due("twin() of 1498 gates", y.twin(), 1 + 46 + 1498);
        y.and(3, 4);
        CHECK.due("twin() of 1502 gates", y.twin(), -1);
    }

    private static void tooManyAfterATwin() {
        NetTwin x = Check.withInputs(23);
        Check.andPairs(x, 23, 250);
        x.twin();
        x.and(2, 5);
        CHECK.due("the twin ends", x.nodes(true), 0);
        CHECK.due("twin()", x.twin(), -1);
        CHECK.due("there is none then", x.nodes(true), 0);
    }

    /** The four ANDs of two inputs and their other values bring 6, 4, 4 and 3 gates. */
    private static void exactly1501Gates() {
        NetTwin x = Check.withInputs(23);
        Check.andPairs(x, 23, 247);
        x.and(2, 5);
        x.and(3, 4);
        x.and(2, 7);
        x.and(3, 6);
        CHECK.due("twin() of 1498 gates", x.twin(), 1 + 46 + 1498);
        x.and(3, 5);
        CHECK.due("twin() of 1501 gates", x.twin(), -1);
        CHECK.due("nodes(true)", x.nodes(true), 0);
    }

    private static void theTwinIsMadeAnew() {
        NetTwin x = Check.withInputs(2);
        x.and(2, 4);
        CHECK.due("twin()", x.twin(), 11);
        x.and(2, 5);
        CHECK.due("twin() of more gates", x.twin(), 15);
        x.input();
        CHECK.due("twin() of more inputs", x.twin(), 17);
        CHECK.due("twinOf(10, false)", x.twinOf(10, false), 6);
        CHECK.due("twinOf(6, false)", x.twinOf(6, false), 14);
    }

    private static void xorNetOf64Inputs() {
        NetTwin x = Check.withInputs(64);
        CHECK.due("xor(2, 128)", x.xor(2, 128), 135);
        CHECK.due("twin()", x.twin(), 1 + 128 + 17);
        CHECK.due("twinOf(128, false)", x.twinOf(128, false), 128);
        CHECK.due("twinOf(128, true)", x.twinOf(128, true), 256);
    }
}
