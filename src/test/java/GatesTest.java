/** Promises 3 to 6: AND, OR, XOR, CHOOSE, their order, and their limit. */
public final class GatesTest {
    private static final Check CHECK = new Check();

    public static void main(String[] args) {
        andWithoutAGate();
        andMakesEachGateOnce();
        orIsByAnd();
        xorMakesItsGatesInOrder();
        chooseMakesItsGatesInOrder();
        bitsAreOfTheFunctions();
        missingLiteralsAreRefused();
        atMost400Gates();
        someGatesOnly();
        onlyANewGateEndsTheTwin();
        CHECK.end();
    }

    private static void andWithoutAGate() {
        NetTwin x = Check.withInputs(2);
        CHECK.due("and(0, 0)", x.and(0, 0), 0);
        CHECK.due("and(0, 1)", x.and(0, 1), 0);
        CHECK.due("and(1, 0)", x.and(1, 0), 0);
        CHECK.due("and(1, 1)", x.and(1, 1), 1);
        CHECK.due("and(0, 2)", x.and(0, 2), 0);
        CHECK.due("and(2, 0)", x.and(2, 0), 0);
        CHECK.due("and(1, 3)", x.and(1, 3), 3);
        CHECK.due("and(3, 1)", x.and(3, 1), 3);
        CHECK.due("and(2, 3)", x.and(2, 3), 0);
        CHECK.due("and(3, 2)", x.and(3, 2), 0);
        CHECK.due("and(4, 4)", x.and(4, 4), 4);
        CHECK.due("and(5, 5)", x.and(5, 5), 5);
        CHECK.due("nodes(false)", x.nodes(false), 3);
    }

    private static void andMakesEachGateOnce() {
        NetTwin x = Check.withInputs(2);
        CHECK.due("and(4, 2)", x.and(4, 2), 6);
        CHECK.due("and(2, 4)", x.and(2, 4), 6);
        CHECK.due("gate(false, 3, 0)", x.gate(false, 3, 0), 2);
        CHECK.due("gate(false, 3, 1)", x.gate(false, 3, 1), 4);
        CHECK.due("and(2, 5)", x.and(2, 5), 8);
        CHECK.due("and(3, 4)", x.and(3, 4), 10);
        CHECK.due("and(3, 5)", x.and(3, 5), 12);
        CHECK.due("and(5, 3)", x.and(5, 3), 12);
        CHECK.due("and(5, 2)", x.and(5, 2), 8);
        CHECK.due("and(6, 2)", x.and(6, 2), 14);
        CHECK.due("nodes(false)", x.nodes(false), 8);
    }

    private static void orIsByAnd() {
        NetTwin x = Check.withInputs(2);
        CHECK.due("or(2, 4)", x.or(2, 4), 7);
        CHECK.due("gate(false, 3, 0)", x.gate(false, 3, 0), 3);
        CHECK.due("gate(false, 3, 1)", x.gate(false, 3, 1), 5);
        CHECK.due("or(4, 2)", x.or(4, 2), 7);
        CHECK.due("and(3, 5)", x.and(3, 5), 6);
        CHECK.due("or(2, 0)", x.or(2, 0), 2);
        CHECK.due("or(0, 2)", x.or(0, 2), 2);
        CHECK.due("or(2, 1)", x.or(2, 1), 1);
        CHECK.due("or(2, 3)", x.or(2, 3), 1);
        CHECK.due("or(5, 5)", x.or(5, 5), 5);
        CHECK.due("or(0, 0)", x.or(0, 0), 0);
        CHECK.due("nodes(false)", x.nodes(false), 4);
    }

    private static void xorMakesItsGatesInOrder() {
        NetTwin x = Check.withInputs(2);
        CHECK.due("xor(2, 4)", x.xor(2, 4), 11);
        checkGate(x, 3, 2, 5);
        checkGate(x, 4, 3, 4);
        checkGate(x, 5, 7, 9);
        CHECK.due("xor(4, 2)", x.xor(4, 2), 11);
        CHECK.due("xor(3, 5)", x.xor(3, 5), 11);
        CHECK.due("xor(2, 2)", x.xor(2, 2), 0);
        CHECK.due("xor(2, 3)", x.xor(2, 3), 1);
        CHECK.due("xor(2, 0)", x.xor(2, 0), 2);
        CHECK.due("xor(1, 2)", x.xor(1, 2), 3);
        CHECK.due("nodes(false)", x.nodes(false), 6);
        CHECK.due("xor(3, 4)", x.xor(3, 4), 17);
        checkGate(x, 6, 3, 5);
        checkGate(x, 7, 2, 4);
        checkGate(x, 8, 13, 15);
    }

    private static void chooseMakesItsGatesInOrder() {
        NetTwin x = Check.withInputs(3);
        CHECK.due("choose(4, 2, 6)", x.choose(4, 2, 6), 13);
        checkGate(x, 4, 2, 4);
        checkGate(x, 5, 5, 6);
        checkGate(x, 6, 9, 11);
        CHECK.due("choose(1, 2, 6)", x.choose(1, 2, 6), 2);
        CHECK.due("choose(0, 2, 6)", x.choose(0, 2, 6), 6);
        CHECK.due("choose(2, 1, 0)", x.choose(2, 1, 0), 2);
        CHECK.due("choose(2, 0, 1)", x.choose(2, 0, 1), 3);
        CHECK.due("nodes(false)", x.nodes(false), 7);
        CHECK.due("choose(2, 4, 4)", x.choose(2, 4, 4), 17);
        checkGate(x, 7, 3, 4);
        checkGate(x, 8, 9, 15);
    }

    private static void checkGate(NetTwin x, int node, int lesser, int other) {
        CHECK.due("gate(false, " + node + ", 0)", x.gate(false, node, 0), lesser);
        CHECK.due("gate(false, " + node + ", 1)", x.gate(false, node, 1), other);
    }

    private static void bitsAreOfTheFunctions() {
        NetTwin x = Check.withInputs(3);
        int and = x.and(2, 5);
        int or = x.or(3, 4);
        int xor = x.xor(2, 4);
        int choose = x.choose(2, 4, 6);
        for (int setting = 0; setting < 8; setting++) {
            int a = setting & 1;
            int b = setting >> 1 & 1;
            int c = setting >> 2;
            x.set(0, false, a);
            x.set(1, false, b);
            x.set(2, false, c);
            CHECK.due("bit of and, " + setting, x.bit(false, and), a & (1 - b));
            CHECK.due("bit of or, " + setting, x.bit(false, or), (1 - a) | b);
            CHECK.due("bit of xor, " + setting, x.bit(false, xor), a ^ b);
            CHECK.due("bit of choose, " + setting, x.bit(false, choose), a == 1 ? b : c);
        }
    }

    private static void missingLiteralsAreRefused() {
        int[] missing = {-1, -2, -3, 6, 7, 8, Integer.MAX_VALUE, Integer.MAX_VALUE - 1, Integer.MIN_VALUE};
        NetTwin x = Check.withInputs(2);
        for (int m : missing) {
            for (int there = 0; there < 3; there++) {
                String with = "with " + m + " and " + there;
                CHECK.due("and " + with, x.and(m, there), -1);
                CHECK.due("and, second, " + with, x.and(there, m), -1);
                CHECK.due("or " + with, x.or(m, there), -1);
                CHECK.due("or, second, " + with, x.or(there, m), -1);
                CHECK.due("xor " + with, x.xor(m, there), -1);
                CHECK.due("xor, second, " + with, x.xor(there, m), -1);
                CHECK.due("choose " + with, x.choose(m, 4, there), -1);
                CHECK.due("choose, second, " + with, x.choose(there, m, 4), -1);
                CHECK.due("choose, third, " + with, x.choose(there, 4, m), -1);
            }
        }
        CHECK.due("nothing is made", x.nodes(false), 3);
        CHECK.due("and of two missing", x.and(6, 6), -1);
        CHECK.due("choose of one missing, not asked", x.choose(1, 2, 6), -1);
    }

    private static void atMost400Gates() {
        NetTwin x = Check.withInputs(30);
        CHECK.due("gate 400", Check.andPairs(x, 30, 400), 2 * 430);
        CHECK.due("nodes(false)", x.nodes(false), 431);
        CHECK.due("and, gate 401", x.and(3, 5), -1);
        CHECK.due("or, gate 401", x.or(2, 4), -1);
        CHECK.due("xor, gate 401", x.xor(3, 5), -1);
        CHECK.due("choose, gate 401", x.choose(3, 5, 7), -1);
        CHECK.due("and of a gate that there is", x.and(4, 2), 62);
        CHECK.due("and without a gate", x.and(3, 1), 3);
        CHECK.due("or of a gate that there is", x.or(0, 2), 2);
        CHECK.due("nodes(false)", x.nodes(false), 431);
        CHECK.due("input() beside 400 gates", x.input(), 2 * 431);
        CHECK.due("bit(false, 862)", x.bit(false, 862), 0);
        CHECK.due("gate(false, 430, 1) is there", x.gate(false, 430, 1) == -1 ? 0 : 1, 1);
    }

    private static void someGatesOnly() {
        NetTwin x = Check.withInputs(30);
        Check.andPairs(x, 30, 399);
        CHECK.due("xor with room for one", x.xor(2, 4), -1);
        CHECK.due("nodes(false)", x.nodes(false), 431);
        checkGate(x, 430, 2, 5);
        CHECK.due("its first gate is there", x.and(2, 5), 860);

        NetTwin y = Check.withInputs(30);
        Check.andPairs(y, 30, 398);
        CHECK.due("choose with room for two", y.choose(3, 5, 7), -1);
        CHECK.due("nodes(false)", y.nodes(false), 431);
        checkGate(y, 429, 3, 5);
        checkGate(y, 430, 2, 7);

        NetTwin z = Check.withInputs(30);
        Check.andPairs(z, 30, 397);
        CHECK.due("xor with room for three", z.xor(2, 4), 861);
        CHECK.due("nodes(false)", z.nodes(false), 431);
    }

    private static void onlyANewGateEndsTheTwin() {
        NetTwin x = Check.withInputs(2);
        x.and(2, 4);
        int nodes = x.twin();
        x.and(4, 2);
        x.and(2, 0);
        x.and(2, 99);
        x.or(3, 5);
        x.xor(2, 2);
        x.choose(1, 2, 4);
        x.choose(2, 4, 99);
        CHECK.due("the twin stays without a new gate", x.nodes(true), nodes);
        x.and(2, 5);
        CHECK.due("and ends the twin", x.nodes(true), 0);
        x.twin();
        x.or(2, 4);
        CHECK.due("or ends the twin", x.nodes(true), 0);
        x.twin();
        x.xor(2, 4);
        CHECK.due("xor ends the twin", x.nodes(true), 0);
        x.twin();
        x.choose(6, 2, 4);
        CHECK.due("choose ends the twin", x.nodes(true), 0);
    }
}
