/** Promises 11 to 13: set, bit, taint. */
public final class BitsTest {
    private static final Check CHECK = new Check();
    private static final int[] MISSING = {-1, -2, 8, 9, 1000, Integer.MAX_VALUE, Integer.MIN_VALUE};

    public static void main(String[] args) {
        setAnswersWhatWasBefore();
        setKeepsBitAndTaintApart();
        setAlongInputsBehindGates();
        bitsOfNetAndTwin();
        taintsByTheRule();
        taintOfAGateOfOneInput();
        missingLiterals();
        setLeavesTheTwin();
        CHECK.end();
    }

    private static void setAnswersWhatWasBefore() {
        NetTwin x = Check.withInputs(2);
        int[] ones = {1, 2, -1, 256, Integer.MAX_VALUE, Integer.MIN_VALUE};
        for (int one : ones) {
            CHECK.due("set(1, false, " + one + ")", x.set(1, false, one), 0);
            CHECK.due("bit(false, 4)", x.bit(false, 4), 1);
            CHECK.due("set(1, false, 0)", x.set(1, false, 0), 1);
            CHECK.due("bit(false, 4)", x.bit(false, 4), 0);
            CHECK.due("set(1, true, " + one + ")", x.set(1, true, one), 0);
            CHECK.due("taint(4)", x.taint(4), 1);
            CHECK.due("set(1, true, 0)", x.set(1, true, 0), 1);
            CHECK.due("taint(4)", x.taint(4), 0);
        }
        CHECK.due("bit(false, 2)", x.bit(false, 2), 0);
        int[] noInput = {-1, 2, 3, 63, 64, 1000, Integer.MAX_VALUE, Integer.MIN_VALUE};
        for (int i : noInput) {
            CHECK.due("set(" + i + ", false, 1)", x.set(i, false, 1), -1);
            CHECK.due("set(" + i + ", true, 1)", x.set(i, true, 1), -1);
        }
        x.input();
        CHECK.due("what was refused is not kept", x.bit(false, 6), 0);
        CHECK.due("nor its taint", x.taint(6), 0);
    }

    private static void setKeepsBitAndTaintApart() {
        NetTwin x = Check.withInputs(1);
        x.set(0, false, 1);
        CHECK.due("taint(2)", x.taint(2), 0);
        x.set(0, true, 1);
        x.set(0, false, 0);
        CHECK.due("bit(false, 2)", x.bit(false, 2), 0);
        CHECK.due("taint(2)", x.taint(2), 1);
        CHECK.due("taint(3)", x.taint(3), 1);
    }

    private static void setAlongInputsBehindGates() {
        NetTwin x = Check.withInputs(2);
        x.and(2, 4);
        x.input();
        CHECK.due("set(2, false, 1)", x.set(2, false, 1), 0);
        CHECK.due("bit(false, 8)", x.bit(false, 8), 1);
        CHECK.due("bit(false, 6)", x.bit(false, 6), 0);
        CHECK.due("set(3, false, 1)", x.set(3, false, 1), -1);
    }

    private static void bitsOfNetAndTwin() {
        for (int setting = 0; setting < 64; setting++) {
            NetTwin x = Check.withInputs(3);
            x.choose(2, x.xor(4, 6), x.or(5, 6));
            x.twin();
            for (int i = 0; i < 3; i++) {
                x.set(i, false, setting >> i & 1);
                x.set(i, true, setting >> (3 + i) & 1);
            }
            int literals = 2 * x.nodes(false);
            for (int literal = 0; literal < literals; literal++) {
                same(x, literal);
            }
        }
    }

    private static void same(NetTwin x, int literal) {
        String of = " of literal " + literal;
        CHECK.due("the value's bit" + of, x.bit(true, x.twinOf(literal, false)), x.bit(false, literal));
        CHECK.due("the taint's bit" + of, x.bit(true, x.twinOf(literal, true)), x.taint(literal));
    }

    private static void taintsByTheRule() {
        NetTwin x = Check.withInputs(2);
        int gate = x.and(2, 5);
        for (int setting = 0; setting < 16; setting++) {
            int a = setting & 1;
            int b = setting >> 1 & 1;
            int aTaint = setting >> 2 & 1;
            int bTaint = setting >> 3;
            x.set(0, false, a);
            x.set(1, false, b);
            x.set(0, true, aTaint);
            x.set(1, true, bTaint);
            int want = (aTaint & (1 - b)) | (bTaint & a) | (aTaint & bTaint);
            CHECK.due("taint(gate), " + setting, x.taint(gate), want);
            CHECK.due("taint(gate ^ 1), " + setting, x.taint(gate ^ 1), want);
        }
        CHECK.due("taint(0)", x.taint(0), 0);
        CHECK.due("taint(1)", x.taint(1), 0);
    }

    /** The taint is by the rule, also where the bit hangs on nothing. */
    private static void taintOfAGateOfOneInput() {
        NetTwin x = Check.withInputs(2);
        int never = x.and(x.and(2, 4), x.and(2, 5));
        x.set(0, false, 1);
        x.set(1, true, 1);
        CHECK.due("taint(never)", x.taint(never), 1);
        CHECK.due("hangs(never)", x.hangs(never), 0);
    }

    private static void missingLiterals() {
        NetTwin x = Check.withInputs(2);
        x.and(2, 4);
        for (int literal : MISSING) {
            CHECK.due("bit(false, " + literal + ")", x.bit(false, literal), -1);
            CHECK.due("taint(" + literal + ")", x.taint(literal), -1);
            CHECK.due("bit(true, " + literal + ") without a twin", x.bit(true, literal), -1);
        }
        CHECK.due("bit(true, 0) without a twin", x.bit(true, 0), -1);
        x.twin();
        CHECK.due("bit(true, 21)", x.bit(true, 21), 0);
        CHECK.due("bit(true, 22)", x.bit(true, 22), -1);
        CHECK.due("bit(true, 23)", x.bit(true, 23), -1);
        CHECK.due("bit(true, -1)", x.bit(true, -1), -1);
        CHECK.due("bit(true, max)", x.bit(true, Integer.MAX_VALUE), -1);
        CHECK.due("bit(true, min)", x.bit(true, Integer.MIN_VALUE), -1);
    }

    private static void setLeavesTheTwin() {
        NetTwin x = Check.withInputs(1);
        x.twin();
        x.set(0, false, 1);
        CHECK.due("nodes(true)", x.nodes(true), 3);
        CHECK.due("bit(true, 2)", x.bit(true, 2), 1);
        CHECK.due("bit(true, 4)", x.bit(true, 4), 0);
        x.set(0, true, 1);
        CHECK.due("bit(true, 4)", x.bit(true, 4), 1);
        CHECK.due("bit(true, 5)", x.bit(true, 5), 0);
        CHECK.due("bit(true, 1)", x.bit(true, 1), 1);
    }
}
