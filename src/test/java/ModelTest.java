/** All promises: long mixed runs, the same each time, compared with the plain model. */
public final class ModelTest {
    private static final int CALLS = 512;
    private static final Check CHECK = new Check();
    private static long state = 88172645463325252L;

    public static void main(String[] args) {
        for (int run = 0; run < 600; run++) {
            mixedRun(run);
        }
        CHECK.end();
    }

    private static int below(int bound) {
        state ^= state << 13;
        state ^= state >>> 7;
        state ^= state << 17;
        return (int) Math.floorMod(state >>> 11, (long) bound);
    }

    /** Runs differ in how many inputs they begin with and in how often they make gates. */
    private static void mixedRun(int run) {
        NetTwin x = new NetTwin();
        PlainModel m = new PlainModel();
        int inputs = run % 3 == 0 ? below(5) : run % 3 == 1 ? below(20) : 50 + below(20);
        int makes = 10 + below(85);
        int extremes = 2 + below(60);
        for (int call = 0; call < CALLS; call++) {
            if (call < inputs) {
                CHECK.due(run + ": input()", x.input(), m.input());
            } else if (below(100) < makes) {
                make(run, x, m, extremes);
            } else {
                other(run, x, m, extremes);
            }
        }
    }

    private static int literal(PlainModel m, boolean ofTwin, int extremes) {
        int[] odd = {-1, -2, Integer.MAX_VALUE, Integer.MIN_VALUE, 0, 1, 930, 3258};
        int chance = below(extremes * 10);
        if (chance < 8) {
            return odd[chance];
        }
        int literals = 2 * m.nodes(ofTwin);
        int recent = Math.min(literals, 24);
        return below(4) == 0 ? below(literals + 2) : literals - recent + below(recent + 1);
    }

    private static void make(int run, NetTwin x, PlainModel m, int extremes) {
        int kind = below(4);
        int c = literal(m, false, extremes);
        int a = literal(m, false, extremes);
        int b = literal(m, false, extremes);
        String of = "(" + c + ", " + a + ", " + b + ")";
        int want = m.make(kind, c, a, b);
        switch (kind) {
            case 0 -> CHECK.due(run + ": and" + of, x.and(a, b), want);
            case 1 -> CHECK.due(run + ": or" + of, x.or(a, b), want);
            case 2 -> CHECK.due(run + ": xor" + of, x.xor(a, b), want);
            default -> CHECK.due(run + ": choose" + of, x.choose(c, a, b), want);
        }
    }

    private static void other(int run, NetTwin x, PlainModel m, int extremes) {
        boolean flag = below(2) == 0;
        int literal = literal(m, false, extremes);
        switch (below(20)) {
            case 0 -> CHECK.due(run + ": input()", x.input(), m.input());
            case 1, 2 -> CHECK.due(run + ": twin()", x.twin(), m.twin());
            case 3 -> CHECK.due(run + ": nodes " + flag, x.nodes(flag), m.nodes(flag));
            case 4, 5, 6 -> {
                int node = literal(m, flag, extremes) / 2;
                int which = below(9) == 0 ? below(5) - 2 : below(2);
                CHECK.due(run + ": gate " + flag + node, x.gate(flag, node, which), m.gate(flag, node, which));
            }
            case 7, 8 -> CHECK.due(run + ": twinOf " + literal, x.twinOf(literal, flag), m.twinOf(literal, flag));
            case 9, 10, 11, 12 -> {
                int i = below(66) - 1;
                int bit = below(3) - 1;
                CHECK.due(run + ": set " + i, x.set(i, flag, bit), m.set(i, flag, bit));
            }
            case 13, 14, 15 -> {
                int of = literal(m, flag, extremes);
                CHECK.due(run + ": bit " + flag + of, x.bit(flag, of), m.bit(flag, of));
            }
            case 16, 17 -> CHECK.due(run + ": taint " + literal, x.taint(literal), m.taint(literal));
            default -> CHECK.due(run + ": hangs " + literal, x.hangs(literal), m.hangs(literal));
        }
    }
}
