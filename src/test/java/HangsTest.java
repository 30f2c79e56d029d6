/** Promise 14. */
public final class HangsTest {
    private static final Check CHECK = new Check();

    public static void main(String[] args) {
        onTaintedInputsAlone();
        onAllWaysOfEight();
        onNothingOfNine();
        theOthersStay();
        onInputsBehindGates();
        itChangesNothing();
        missingLiterals();
        CHECK.end();
    }

    private static void onTaintedInputsAlone() {
        NetTwin x = Check.withInputs(2);
        CHECK.due("hangs(2) untainted", x.hangs(2), 0);
        x.set(0, true, 1);
        CHECK.due("hangs(2)", x.hangs(2), 1);
        CHECK.due("hangs(3)", x.hangs(3), 1);
        CHECK.due("hangs(4)", x.hangs(4), 0);
        CHECK.due("hangs(0)", x.hangs(0), 0);
        CHECK.due("hangs(1)", x.hangs(1), 0);
        x.set(0, false, 1);
        CHECK.due("hangs(2), its bit 1", x.hangs(2), 1);
        x.set(0, true, 0);
        CHECK.due("hangs(2) untainted again", x.hangs(2), 0);
    }

    /** The gate is 1 in one way only of the 256: each way must be tried. */
    private static void onAllWaysOfEight() {
        for (int way = 0; way < 256; way++) {
            NetTwin x = Check.withInputs(12);
            int all = 1;
            for (int k = 0; k < 8; k++) {
                all = x.and(all, 2 * (k + 3) + (way >> k & 1));
                x.set(k + 2, true, 1);
            }
            CHECK.due("hangs(all), way " + way, x.hangs(all), 1);
            CHECK.due("hangs(all and an input)", x.hangs(x.and(all, 2)), 0);
            for (int k = 0; k < 8; k++) {
                x.set(k + 2, false, 1 - (way >> k & 1));
            }
            CHECK.due("bit(all), way " + way, x.bit(false, all), 1);
            CHECK.due("hangs(all) from 1, way " + way, x.hangs(all), 1);
        }
    }

    private static void onNothingOfNine() {
        NetTwin x = Check.withInputs(64);
        for (int i = 55; i < 63; i++) {
            x.set(i, true, 1);
        }
        CHECK.due("hangs(126), eight tainted", x.hangs(126), 1);
        CHECK.due("hangs(2), eight tainted", x.hangs(2), 0);
        x.set(63, true, 1);
        CHECK.due("hangs(126), nine tainted", x.hangs(126), -1);
        CHECK.due("hangs(2), nine tainted", x.hangs(2), -1);
        CHECK.due("hangs(0), nine tainted", x.hangs(0), -1);
        CHECK.due("hangs(1), nine tainted", x.hangs(1), -1);
        CHECK.due("taint(126), nine tainted", x.taint(126), 1);
        for (int i = 0; i < 55; i++) {
            x.set(i, true, 1);
        }
        CHECK.due("hangs(126), all tainted", x.hangs(126), -1);
        for (int i = 0; i < 56; i++) {
            x.set(i, true, 0);
        }
        CHECK.due("hangs(126), eight tainted again", x.hangs(126), 1);
    }

    private static void theOthersStay() {
        NetTwin x = Check.withInputs(3);
        int gate = x.choose(2, 4, 6);
        x.set(1, true, 1);
        CHECK.due("hangs(gate), not chosen", x.hangs(gate), 0);
        x.set(0, false, 1);
        CHECK.due("hangs(gate), chosen", x.hangs(gate), 1);
        x.set(0, false, 0);
        x.set(0, true, 1);
        x.set(1, true, 0);
        CHECK.due("hangs(gate), both the same", x.hangs(gate), 0);
        x.set(2, false, 1);
        CHECK.due("hangs(gate), both other", x.hangs(gate), 1);
    }

    private static void onInputsBehindGates() {
        NetTwin x = Check.withInputs(2);
        x.and(2, 4);
        x.input();
        x.set(2, true, 1);
        CHECK.due("hangs(8)", x.hangs(8), 1);
        CHECK.due("hangs(6)", x.hangs(6), 0);
        CHECK.due("hangs(4)", x.hangs(4), 0);
        CHECK.due("hangs(or(6, 8))", x.hangs(x.or(6, 8)), 1);
    }

    private static void itChangesNothing() {
        NetTwin x = Check.withInputs(3);
        int gate = x.xor(2, 4);
        x.twin();
        x.set(0, false, 1);
        x.set(1, true, 1);
        int nodes = x.nodes(true);
        CHECK.due("hangs(gate)", x.hangs(gate), 1);
        CHECK.due("nodes(true)", x.nodes(true), nodes);
        CHECK.due("bit(false, gate)", x.bit(false, gate), 1);
        CHECK.due("bit(false, 2)", x.bit(false, 2), 1);
        CHECK.due("bit(false, 4)", x.bit(false, 4), 0);
        CHECK.due("bit(true, 4)", x.bit(true, 4), 0);
        CHECK.due("set(0, false, 1)", x.set(0, false, 1), 1);
        CHECK.due("set(1, false, 0)", x.set(1, false, 0), 0);
        CHECK.due("set(1, true, 1)", x.set(1, true, 1), 1);
    }

    private static void missingLiterals() {
        NetTwin x = Check.withInputs(1);
        int[] missing = {-1, -2, 4, 5, 1000, Integer.MAX_VALUE, Integer.MIN_VALUE};
        for (int literal : missing) {
            CHECK.due("hangs(" + literal + ")", x.hangs(literal), -1);
        }
    }
}
