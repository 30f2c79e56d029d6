/** No call throws, whatever it is given, in whatever state, and after the 512th call too. */
public final class NeverThrowsTest {
    private static final Check CHECK = new Check();
    private static final int[] ODD = {
        Integer.MIN_VALUE, Integer.MIN_VALUE + 1, -930, -129, -64, -3, -2, -1, 0, 1, 2, 3, 4, 63, 64, 65, 127, 128,
        129, 130, 398, 399, 400, 401, 464, 465, 466, 927, 928, 929, 930, 931, 1499, 1500, 1501, 1628, 1629, 1630,
        3256, 3257, 3258, 3259, Integer.MAX_VALUE - 1, Integer.MAX_VALUE
    };

    public static void main(String[] args) {
        everyCall(new NetTwin());
        everyCall(Check.withInputs(1));
        everyCall(fullNet(64, 0));
        everyCall(fullNet(30, 250));
        everyCall(fullNet(64, 400));
        everyCall(fullNet(0, 400));
        CHECK.end();
    }

    private static NetTwin fullNet(int inputs, int gates) {
        NetTwin x = Check.withInputs(inputs);
        Check.andPairs(x, inputs, gates);
        x.twin();
        return x;
    }

    private static void everyCall(NetTwin x) {
        for (int a : ODD) {
            readAll(x, a);
        }
        for (int a : ODD) {
            makeAll(x, a);
            readAll(x, a);
        }
        CHECK.holds("nodes(false) is within the limits", x.nodes(false) >= 1 && x.nodes(false) <= 465);
        CHECK.holds("nodes(true) is within the limits", x.nodes(true) >= 0 && x.nodes(true) <= 1629);
    }

    private static void readAll(NetTwin x, int a) {
        for (int flag = 0; flag < 2; flag++) {
            boolean is = flag == 1;
            for (int b : ODD) {
                between(x.gate(is, a, b), 3257);
                between(x.set(a, is, b), 1);
            }
            between(x.twinOf(a, is), 3257);
            between(x.bit(is, a), 1);
        }
        between(x.taint(a), 1);
        between(x.hangs(a), 1);
        between(x.twin(), 1629);
    }

    private static void makeAll(NetTwin x, int a) {
        for (int b : ODD) {
            between(x.and(a, b), 929);
            between(x.or(a, b), 929);
            between(x.xor(a, b), 929);
            for (int c : ODD) {
                between(x.choose(a, b, c), 929);
            }
        }
        between(x.input(), 928);
    }

    private static void between(int answer, int most) {
        if (answer < NetTwin.NONE || answer > most) {
            CHECK.due("an answer beyond what there can be", answer, most);
        }
    }
}
