/** Counts the answers of one test that are not the due ones. */
final class Check {
    private int asked = 0;
    private int wrong = 0;

    void due(String call, long got, long want) {
        asked++;
        if (got != want) {
            wrong++;
            System.out.println(call + " answered " + got + ", due is " + want);
        }
    }

    void holds(String what, boolean is) {
        due(what, is ? 1 : 0, 1);
    }

    void end() {
        if (wrong != 0 || asked == 0) {
            System.out.println(wrong + " of " + asked + " answers are not as due");
            System.exit(1);
        }
    }

    /** An object with so many inputs, whose literals are 2, 4, .. */
    static NetTwin withInputs(int inputs) {
        NetTwin x = new NetTwin();
        for (int i = 0; i < inputs; i++) {
            x.input();
        }
        return x;
    }

    /** Makes so many ANDs of two inputs each, all of other pairs; the object needs inputs enough. */
    static int andPairs(NetTwin x, int inputs, int gates) {
        int last = NetTwin.NONE;
        int made = 0;
        for (int a = 1; a <= inputs; a++) {
            for (int b = a + 1; b <= inputs && made < gates; b++) {
                last = x.and(2 * a, 2 * b);
                made++;
            }
        }
        return last;
    }
}
