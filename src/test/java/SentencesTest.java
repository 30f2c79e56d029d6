/**
 * Each sentence of the document that names a boundary case, in the order of the promises: a method
 * for each, and its promise and words stand in what it prints.
 */
public final class SentencesTest {
    private static final Check CHECK = new Check();
    private static final int LEAST = Integer.MIN_VALUE;
    private static final int GREATEST = Integer.MAX_VALUE;

    private static final int AND = 3;
    private static final int OR = 4;
    private static final int XOR = 5;
    private static final int CHOOSE = 6;
    private static final String[] CALLS = {"and", "or", "xor", "choose"};

    /** What is said, before the call, of an answer that is not as due. */
    private static String saying = "";

    public static void main(String[] args) {
        promise1NodeZeroAloneAndNoTwin();
        promise2NoneWhenThereAre64();
        promise2NoTwinAnyMore();
        for (int promise = AND; promise <= CHOOSE; promise++) {
            noSuchLiteral(promise);
            tooManyGates(promise);
            noGateNeedsNoRoom(promise);
            noTwinAnyMoreWhenThereIsANewGate(promise);
            theTwinStaysWithoutANewGate(promise);
        }
        promise4RoomForSomeOfItsGatesOnly();
        promise5RoomForSomeOfItsGatesOnly();
        promise6RoomForSomeOfItsGatesOnly();
        gatesThatThereAreNeedNoRoom();
        promise7ZeroWhenThereIsNone();
        promise8NoneForOtherNodes();
        promise8NoneForWhatIsNotThere();
        promise9NoneWhenItWouldHaveTooManyGates();
        promise9ThereIsNoneThen();
        promise10NoneWhenThereIsNoTwin();
        promise10NoneWhenThereIsNoSuchLiteral();
        promise11AnyNumberButZeroIsOne();
        promise11NoneWhenThereIsNoSuchInput();
        promise12NoneWhenThereIsNoSuchLiteral();
        promise12NoneWhenTheTwinHasNoSuchLiteral();
        promise13NoneWhenThereIsNoSuchLiteral();
        promise13ThereNeedBeNoTwin();
        promise14NoneWhenThereIsNoSuchLiteral();
        promise14NoneWhenMoreThan8InputsAreTainted();
        CHECK.end();
    }

    private static void sentence(int promise, String words) {
        saying = "promise " + promise + ", \"" + words + "\": ";
    }

    private static void due(String call, int got, int want) {
        CHECK.due(saying + call, got, want);
    }

    private static void promise1NodeZeroAloneAndNoTwin() {
        sentence(1, "A net of node 0 alone; there is no twin");
        NetTwin x = new NetTwin();
        due("nodes(false)", x.nodes(false), 1);
        due("nodes(true)", x.nodes(true), 0);
        due("bit(false, 1)", x.bit(false, 1), 1);
        due("bit(false, 2)", x.bit(false, 2), -1);
        due("set(0, false, 1)", x.set(0, false, 1), -1);
        due("twin()", x.twin(), 1);
    }

    private static void promise2NoneWhenThereAre64() {
        sentence(2, "NONE when there are 64");
        NetTwin x = Check.withInputs(62);
        due("input() 63", x.input(), 126);
        due("input() 64", x.input(), 128);
        due("input() 65", x.input(), -1);
        due("input() 66", x.input(), -1);
        due("nodes(false)", x.nodes(false), 65);
        due("bit(false, 130)", x.bit(false, 130), -1);
        due("set(64, false, 1)", x.set(64, false, 1), -1);
        due("and(2, 4) has the next number", x.and(2, 4), 130);
        due("input() behind a gate", x.input(), -1);
        due("nodes(false)", x.nodes(false), 66);
    }

    private static void promise2NoTwinAnyMore() {
        sentence(2, "There is no twin any more, if there was one");
        NetTwin x = new NetTwin();
        x.twin();
        x.input();
        noTwin(x);
        NetTwin y = Check.withInputs(63);
        due("twin() of 63 inputs", y.twin(), 127);
        due("input() 64", y.input(), 128);
        noTwin(y);
        // A refused input is none more, and so it leaves what there is.
        due("twin() of 64 inputs", y.twin(), 129);
        due("input() 65", y.input(), -1);
        due("nodes(true) after a refused input()", y.nodes(true), 129);
        due("twinOf(128, true)", y.twinOf(128, true), 256);
        // Without a twin there is nothing to end.
        NetTwin z = new NetTwin();
        z.input();
        noTwin(z);
        due("twin()", z.twin(), 3);
    }

    private static void noTwin(NetTwin x) {
        due("nodes(true) without a twin", x.nodes(true), 0);
        due("twinOf(0, false) without a twin", x.twinOf(0, false), -1);
        due("twinOf(0, true) without a twin", x.twinOf(0, true), -1);
        due("twinOf(2, false) without a twin", x.twinOf(2, false), -1);
        due("bit(true, 0) without a twin", x.bit(true, 0), -1);
        due("bit(true, 2) without a twin", x.bit(true, 2), -1);
        due("gate(true, 5, 0) without a twin", x.gate(true, 5, 0), -1);
        due("gate(true, x.nodes(false), 1) without a twin", x.gate(true, x.nodes(false), 1), -1);
    }

    /** The call of promise 3, 4, 5 or 6; c is for CHOOSE alone. */
    private static int make(int promise, NetTwin x, int c, int a, int b) {
        if (promise == AND) {
            return x.and(a, b);
        }
        if (promise == OR) {
            return x.or(a, b);
        }
        return promise == XOR ? x.xor(a, b) : x.choose(c, a, b);
    }

    private static void dueMade(int promise, NetTwin x, int c, int a, int b, int want) {
        String of = "(" + (promise == CHOOSE ? c + ", " : "") + a + ", " + b + ")";
        due(CALLS[promise - AND] + of + " of " + x.nodes(false) + " nodes", make(promise, x, c, a, b), want);
    }

    private static void noSuchLiteral(int promise) {
        sentence(promise, "NONE, refused: there is no such literal");
        NetTwin x = Check.withInputs(3);
        x.twin();
        // 8 is the first that there is not; a gate made halfway would bring 8 and 9 about.
        int[] missing = {LEAST, LEAST + 1, -3, -2, -1, 8, 9, 10, 930, GREATEST - 1, GREATEST};
        int[] there = {0, 1, 2, 7};
        for (int m : missing) {
            for (int t : there) {
                dueMade(promise, x, 4, m, t, -1);
                dueMade(promise, x, 4, t, m, -1);
            }
            dueMade(promise, x, 4, m, m, -1);
        }
        due("nodes(false)", x.nodes(false), 4);
        due("nodes(true)", x.nodes(true), 7);
        if (promise == CHOOSE) {
            noSuchChooser(missing);
        }
    }

    private static void noSuchChooser(int[] missing) {
        NetTwin x = Check.withInputs(3);
        for (int m : missing) {
            due("(" + m + ", 2, 4)", x.choose(m, 2, 4), -1);
            due("(" + m + ", 0, 0)", x.choose(m, 0, 0), -1);
            due("(" + m + ", 1, 1)", x.choose(m, 1, 1), -1);
            due("(1, 2, " + m + ")", x.choose(1, 2, m), -1);
            due("(0, " + m + ", 2)", x.choose(0, m, 2), -1);
            due("(2, 4, " + m + ")", x.choose(2, 4, m), -1);
            due("(2, " + m + ", 4)", x.choose(2, m, 4), -1);
        }
        due("nodes(false)", x.nodes(false), 4);
    }

    /** Thirty inputs, and so many gates, each of two inputs as they are. */
    private static NetTwin withGates(int gates) {
        NetTwin x = Check.withInputs(30);
        Check.andPairs(x, 30, gates);
        return x;
    }

    private static void tooManyGates(int promise) {
        sentence(promise, "NONE, refused: there would be too many gates");
        int gatesOfIt = promise <= OR ? 1 : 3;
        // ANDs of two inputs as they are stand already: XOR must not ask for one of these.
        int b = promise == XOR ? 6 : 7;
        NetTwin room = withGates(400 - gatesOfIt);
        int want = promise == AND ? 860 : 861;
        dueMade(promise, room, 3, 4, b, want);
        due("nodes(false), all gates made", room.nodes(false), 431);
        dueMade(promise, room, 3, 4, b, want);
        dueMade(promise, room, 5, 6, 9, -1);
        due("nodes(false), nothing made", room.nodes(false), 431);
        due("input(), which is no gate", room.input(), 862);
        dueMade(promise, room, 5, 6, 9, -1);
        dueMade(promise, room, 3, 862, 7, -1);
        due("nodes(false), one input more", room.nodes(false), 432);
    }

    private static void noGateNeedsNoRoom(int promise) {
        sentence(promise, "too many gates: not without a new one");
        NetTwin x = withGates(400);
        int[] withFalse = {0, 2, 2, 2};
        int[] withTrue = {2, 1, 3, 2};
        dueMade(promise, x, 2, 2, 0, withFalse[promise - AND]);
        dueMade(promise, x, 3, 0, 2, withFalse[promise - AND]);
        dueMade(promise, x, 3, 2, 1, withTrue[promise - AND]);
        dueMade(promise, x, 2, 1, 2, withTrue[promise - AND]);
        int[] same = {5, 5, 0, 5};
        int[] others = {0, 1, 1, 4};
        dueMade(promise, x, 1, 5, 5, same[promise - AND]);
        dueMade(promise, x, 0, 5, 4, others[promise - AND]);
        due("nodes(false)", x.nodes(false), 431);
    }

    private static void noTwinAnyMoreWhenThereIsANewGate(int promise) {
        sentence(promise, "There is no twin any more, if there was one and there is a new gate");
        NetTwin x = Check.withInputs(3);
        due("twin()", x.twin(), 7);
        make(promise, x, 2, 4, 6);
        noTwin(x);
        NetTwin y = Check.withInputs(3);
        make(promise, y, 2, 4, 6);
        int nodes = y.twin();
        due("nodes(true)", y.nodes(true), nodes);
        make(promise, y, 3, 5, 6);
        noTwin(y);
        NetTwin z = Check.withInputs(3);
        make(promise, z, 2, 4, 6);
        noTwin(z);
        due("twin() there was none before", z.twin(), nodes);
    }

    private static void theTwinStaysWithoutANewGate(int promise) {
        sentence(promise, "no twin any more only when there is a new gate");
        NetTwin x = Check.withInputs(3);
        int made = make(promise, x, 2, 4, 6);
        int nodes = x.twin();
        int value = x.twinOf(made, false);
        dueMade(promise, x, 2, 4, 6, made);
        make(promise, x, 1, 4, 4);
        make(promise, x, 0, 0, 6);
        make(promise, x, 4, 1, 0);
        make(promise, x, 2, 4, 99);
        make(promise, x, -1, -1, 6);
        due("nodes(true)", x.nodes(true), nodes);
        due("twinOf(made, false)", x.twinOf(made, false), value);
    }

    private static void checkGate(NetTwin x, int node, int lesser, int other) {
        due("gate(false, " + node + ", 0)", x.gate(false, node, 0), lesser);
        due("gate(false, " + node + ", 1)", x.gate(false, node, 1), other);
    }

    private static void promise4RoomForSomeOfItsGatesOnly() {
        sentence(OR, "When there is room for some of its gates only, those are made that come first");
        NetTwin none = withGates(400);
        due("or(2, 4), its one gate without room", none.or(2, 4), -1);
        due("nodes(false)", none.nodes(false), 431);
        NetTwin one = withGates(399);
        due("or(2, 4), room for one", one.or(2, 4), 861);
        checkGate(one, 430, 3, 5);
    }

    private static void promise5RoomForSomeOfItsGatesOnly() {
        sentence(XOR, "When there is room for some of its gates only, those are made that come first");
        NetTwin one = withGates(399);
        due("xor(2, 4), room for one", one.xor(2, 4), -1);
        due("nodes(false)", one.nodes(false), 431);
        checkGate(one, 430, 2, 5);
        due("and(2, 5) is there", one.and(2, 5), 860);
        due("and(3, 4) is not", one.and(3, 4), -1);

        NetTwin two = withGates(398);
        due("xor(2, 4), room for two", two.xor(2, 4), -1);
        due("nodes(false)", two.nodes(false), 431);
        checkGate(two, 429, 2, 5);
        checkGate(two, 430, 3, 4);
        due("xor(2, 4) once more", two.xor(2, 4), -1);
        due("xor(4, 2), the same gates", two.xor(4, 2), -1);
        due("nodes(false)", two.nodes(false), 431);

        NetTwin there = withGates(398);
        there.and(2, 5);
        due("xor(2, 4), its first there, room for one", there.xor(2, 4), -1);
        checkGate(there, 430, 3, 4);

        NetTwin turned = withGates(399);
        due("xor(4, 2), room for one", turned.xor(4, 2), -1);
        checkGate(turned, 430, 3, 4);
    }

    private static void promise6RoomForSomeOfItsGatesOnly() {
        sentence(CHOOSE, "When there is room for some of its gates only, those are made that come first");
        NetTwin none = withGates(400);
        due("choose(3, 5, 7), no room", none.choose(3, 5, 7), -1);
        due("nodes(false)", none.nodes(false), 431);

        NetTwin one = withGates(399);
        due("choose(3, 5, 7), room for one", one.choose(3, 5, 7), -1);
        due("nodes(false)", one.nodes(false), 431);
        checkGate(one, 430, 3, 5);

        NetTwin two = withGates(398);
        due("choose(3, 5, 7), room for two", two.choose(3, 5, 7), -1);
        due("nodes(false)", two.nodes(false), 431);
        checkGate(two, 429, 3, 5);
        checkGate(two, 430, 2, 7);

        NetTwin three = withGates(397);
        due("choose(3, 5, 7), room for three", three.choose(3, 5, 7), 861);
        checkGate(three, 428, 3, 5);
        checkGate(three, 429, 2, 7);
        checkGate(three, 430, 857, 859);

        NetTwin there = withGates(398);
        there.and(3, 5);
        due("choose(3, 5, 7), its first there, room for one", there.choose(3, 5, 7), -1);
        checkGate(there, 430, 2, 7);

        NetTwin alone = withGates(399);
        due("choose(3, 5, 0), one gate alone", alone.choose(3, 5, 0), 860);
    }

    private static void gatesThatThereAreNeedNoRoom() {
        sentence(XOR, "too many gates: not when there are all of them");
        NetTwin x = Check.withInputs(30);
        int xor = x.xor(2, 4);
        int choose = x.choose(3, 5, 7);
        int or = x.or(6, 8);
        int and = x.and(7, 8);
        Check.andPairs(x, 30, 400);
        due("nodes(false)", x.nodes(false), 431);
        due("xor(4, 2)", x.xor(4, 2), xor);
        due("xor(3, 5)", x.xor(3, 5), xor);
        sentence(CHOOSE, "too many gates: not when there are all of them");
        due("choose(3, 5, 7)", x.choose(3, 5, 7), choose);
        due("choose(2, 7, 5), turned", x.choose(2, 7, 5), choose);
        sentence(OR, "too many gates: not when there is its gate");
        due("or(8, 6)", x.or(8, 6), or);
        sentence(AND, "too many gates: not when there is its gate");
        due("and(8, 7)", x.and(8, 7), and);
    }

    private static void promise7ZeroWhenThereIsNone() {
        sentence(7, "0 when there is none");
        NetTwin x = new NetTwin();
        due("nodes(true), never made", x.nodes(true), 0);
        x.twin();
        due("nodes(true) of node 0 alone", x.nodes(true), 1);
        x.input();
        due("nodes(true) behind an input", x.nodes(true), 0);
        x.input();
        x.twin();
        due("nodes(true)", x.nodes(true), 5);
        x.and(2, 4);
        due("nodes(true) behind a gate", x.nodes(true), 0);
        due("nodes(false)", x.nodes(false), 4);
        NetTwin y = tooManyForATwin();
        y.twin();
        due("nodes(true) behind a twin that could not be", y.nodes(true), 0);
    }

    private static void promise8NoneForOtherNodes() {
        sentence(8, "NONE for other nodes");
        NetTwin x = Check.withInputs(2);
        x.and(2, 5);
        x.input();
        x.twin();
        int[] ofNet = {0, 1, 2, 4};
        for (int node : ofNet) {
            due("gate(false, " + node + ", 0)", x.gate(false, node, 0), -1);
            due("gate(false, " + node + ", 1)", x.gate(false, node, 1), -1);
        }
        checkGate(x, 3, 2, 5);
        for (int node = 0; node <= 6; node++) {
            due("gate(true, " + node + ", 0)", x.gate(true, node, 0), -1);
            due("gate(true, " + node + ", 1)", x.gate(true, node, 1), -1);
        }
        due("gate(true, 7, 0)", x.gate(true, 7, 0), 2);
        due("gate(true, 7, 1)", x.gate(true, 7, 1), 5);
    }

    private static void promise8NoneForWhatIsNotThere() {
        sentence(8, "NONE for what is not there");
        NetTwin x = Check.withInputs(2);
        x.and(2, 5);
        int[] notOfNet = {LEAST, LEAST + 3, -3, -1, 4, 5, 10, 464, 465, 466, GREATEST};
        for (int node : notOfNet) {
            due("gate(false, " + node + ", 0)", x.gate(false, node, 0), -1);
            due("gate(false, " + node + ", 1)", x.gate(false, node, 1), -1);
        }
        int[] notWhich = {LEAST, -2, -1, 2, 3, GREATEST};
        for (int which : notWhich) {
            due("gate(false, 3, " + which + ")", x.gate(false, 3, which), -1);
        }
        due("gate(true, 5, 0), never a twin", x.gate(true, 5, 0), -1);
        due("twin()", x.twin(), 11);
        due("gate(true, 10, 1)", x.gate(true, 10, 1), 19);
        int[] notOfTwin = {LEAST, -5, -1, 11, 12, 1628, 1629, 1630, GREATEST};
        for (int node : notOfTwin) {
            due("gate(true, " + node + ", 0)", x.gate(true, node, 0), -1);
            due("gate(true, " + node + ", 1)", x.gate(true, node, 1), -1);
        }
        for (int which : notWhich) {
            due("gate(true, 5, " + which + ")", x.gate(true, 5, which), -1);
        }
        x.and(2, 4);
        due("gate(true, 5, 0), the twin ended", x.gate(true, 5, 0), -1);
    }

    /** Gates of pairs of inputs alone: each brings six gates of the twin. */
    private static NetTwin tooManyForATwin() {
        NetTwin x = Check.withInputs(64);
        Check.andPairs(x, 64, 251);
        return x;
    }

    private static void promise9NoneWhenItWouldHaveTooManyGates() {
        sentence(9, "NONE, when it would have too many gates");
        NetTwin x = Check.withInputs(64);
        int last = Check.andPairs(x, 64, 250);
        due("twin() of 1500 gates", x.twin(), 1 + 128 + 1500);
        due("nodes(true)", x.nodes(true), 1629);
        due("gate(true, 1628, 0), the last", x.gate(true, 1628, 0), 3252);
        due("gate(true, 1628, 1), the last", x.gate(true, 1628, 1), 3255);
        due("twinOf(last, true)", x.twinOf(last, true), 2 * 1628 + 1);
        due("bit(true, 3257)", x.bit(true, 3257), 0);
        due("bit(true, 3258)", x.bit(true, 3258), -1);
        due("twin() again", x.twin(), 1629);
        due("twin() of 1506 gates", tooManyForATwin().twin(), -1);
        // Of two inputs' four gates the first brings 6, the next two 4 each, and the last 3.
        NetTwin y = Check.withInputs(64);
        Check.andPairs(y, 64, 247);
        y.and(2, 5);
        y.and(3, 4);
        y.and(2, 7);
        y.and(3, 6);
        due("twin() of 1498 gates", y.twin(), 1 + 128 + 1498);
        y.and(3, 5);
        due("twin() of 1501 gates", y.twin(), -1);
    }

    private static void promise9ThereIsNoneThen() {
        sentence(9, "there is none then");
        NetTwin x = tooManyForATwin();
        due("twin()", x.twin(), -1);
        noTwin(x);
        due("gate(true, 129, 0)", x.gate(true, 129, 0), -1);
        due("twin() again", x.twin(), -1);
        noTwin(x);
        NetTwin y = Check.withInputs(64);
        Check.andPairs(y, 64, 250);
        due("twin() while there is room", y.twin(), 1629);
        y.and(2, 5);
        due("twin() when there is none", y.twin(), -1);
        noTwin(y);
        due("nodes(false) is as it was", y.nodes(false), 316);
        y.set(0, true, 1);
        due("taint(2)", y.taint(2), 1);
    }

    private static void promise10NoneWhenThereIsNoTwin() {
        sentence(10, "NONE when there is no twin");
        NetTwin x = Check.withInputs(2);
        for (int literal = 0; literal < 6; literal++) {
            due("twinOf(" + literal + ", false), never a twin", x.twinOf(literal, false), -1);
            due("twinOf(" + literal + ", true), never a twin", x.twinOf(literal, true), -1);
        }
        x.twin();
        due("twinOf(4, false)", x.twinOf(4, false), 4);
        due("twinOf(5, true)", x.twinOf(5, true), 8);
        x.and(2, 4);
        due("twinOf(4, false), the twin ended", x.twinOf(4, false), -1);
        due("twinOf(4, true), the twin ended", x.twinOf(4, true), -1);
    }

    private static void promise10NoneWhenThereIsNoSuchLiteral() {
        sentence(10, "NONE when there is no such literal");
        NetTwin x = Check.withInputs(2);
        x.and(2, 4);
        due("twin()", x.twin(), 11);
        due("twinOf(7, false)", x.twinOf(7, false), 11);
        due("twinOf(7, true)", x.twinOf(7, true), 21);
        // 8 to 21 are literals of the twin, but not of the net.
        int[] missing = {LEAST, LEAST + 1, -2, -1, 8, 9, 10, 21, 22, 929, 930, 931, GREATEST - 1, GREATEST};
        for (int literal : missing) {
            due("twinOf(" + literal + ", false)", x.twinOf(literal, false), -1);
            due("twinOf(" + literal + ", true)", x.twinOf(literal, true), -1);
        }
    }

    private static void promise11AnyNumberButZeroIsOne() {
        sentence(11, "any number but 0 is 1");
        int[] ones = {LEAST, LEAST + 1, -2, -1, 1, 2, 3, 256, 65536, GREATEST - 1, GREATEST};
        NetTwin x = Check.withInputs(2);
        for (int one : ones) {
            due("set(1, false, " + one + ")", x.set(1, false, one), 0);
            due("bit(false, 4)", x.bit(false, 4), 1);
            due("bit(false, 5)", x.bit(false, 5), 0);
            due("set(1, false, " + one + ") again", x.set(1, false, one), 1);
            due("set(1, true, " + one + ")", x.set(1, true, one), 0);
            due("taint(4)", x.taint(4), 1);
            due("hangs(4)", x.hangs(4), 1);
            due("set(1, true, 0)", x.set(1, true, 0), 1);
            due("taint(4)", x.taint(4), 0);
            due("set(1, false, 0)", x.set(1, false, 0), 1);
            due("bit(false, 4)", x.bit(false, 4), 0);
        }
    }

    private static void promise11NoneWhenThereIsNoSuchInput() {
        sentence(11, "NONE when there is no such input");
        NetTwin x = Check.withInputs(2);
        x.and(2, 4);
        // 3 is a node, but there are two inputs alone.
        int[] missing = {LEAST, LEAST + 1, -2, -1, 2, 3, 4, 63, 64, 65, GREATEST - 1, GREATEST};
        for (int i : missing) {
            due("set(" + i + ", false, 0)", x.set(i, false, 0), -1);
            due("set(" + i + ", false, 1)", x.set(i, false, 1), -1);
            due("set(" + i + ", true, 1)", x.set(i, true, 1), -1);
        }
        due("input()", x.input(), 8);
        due("bit(false, 8), set before it came", x.bit(false, 8), 0);
        due("taint(8), set before it came", x.taint(8), 0);
        due("set(2, false, 1)", x.set(2, false, 1), 0);
        NetTwin full = Check.withInputs(64);
        due("set(63, true, 1) of 64", full.set(63, true, 1), 0);
        due("set(64, true, 1) of 64", full.set(64, true, 1), -1);
        due("set(64, false, 1) of 64", full.set(64, false, 1), -1);
        due("set(0, false, 1) of none", new NetTwin().set(0, false, 1), -1);
    }

    private static void promise12NoneWhenThereIsNoSuchLiteral() {
        sentence(12, "NONE when there is no such literal");
        NetTwin x = Check.withInputs(2);
        x.and(2, 4);
        x.twin();
        due("bit(false, 6), the last node", x.bit(false, 6), 0);
        due("bit(false, 7), the last node", x.bit(false, 7), 1);
        // 8 to 21 are literals of the twin, but not of the net.
        int[] missing = {LEAST, LEAST + 1, -2, -1, 8, 9, 21, 22, 929, 930, 931, GREATEST - 1, GREATEST};
        for (int literal : missing) {
            due("bit(false, " + literal + ")", x.bit(false, literal), -1);
        }
    }

    private static void promise12NoneWhenTheTwinHasNoSuchLiteral() {
        sentence(12, "NONE when there is no such literal, of the twin");
        NetTwin x = Check.withInputs(2);
        x.and(2, 4);
        for (int literal = 0; literal < 23; literal++) {
            due("bit(true, " + literal + "), never a twin", x.bit(true, literal), -1);
        }
        x.twin();
        due("bit(true, 20), the last node", x.bit(true, 20), 1);
        due("bit(true, 21), the last node", x.bit(true, 21), 0);
        int[] missing = {LEAST, LEAST + 1, -2, -1, 22, 23, 3257, 3258, 3259, GREATEST - 1, GREATEST};
        for (int literal : missing) {
            due("bit(true, " + literal + ")", x.bit(true, literal), -1);
        }
        x.input();
        due("bit(true, 1), the twin ended", x.bit(true, 1), -1);
        due("bit(true, 20), the twin ended", x.bit(true, 20), -1);
    }

    private static void promise13NoneWhenThereIsNoSuchLiteral() {
        sentence(13, "NONE when there is no such literal");
        NetTwin x = Check.withInputs(2);
        x.and(2, 4);
        x.set(1, true, 1);
        x.set(0, false, 1);
        x.twin();
        due("taint(6), the last node", x.taint(6), 1);
        due("taint(7), the last node", x.taint(7), 1);
        int[] missing = {LEAST, LEAST + 1, -2, -1, 8, 9, 21, 22, 929, 930, 931, GREATEST - 1, GREATEST};
        for (int literal : missing) {
            due("taint(" + literal + ")", x.taint(literal), -1);
        }
    }

    private static void promise13ThereNeedBeNoTwin() {
        sentence(13, "there need be no twin");
        NetTwin x = tooManyForATwin();
        x.set(0, true, 1);
        x.set(1, false, 1);
        due("twin()", x.twin(), -1);
        due("taint(130), of 2 and 4", x.taint(130), 1);
        due("taint(132), of 2 and 6", x.taint(132), 0);
        due("taint(0)", x.taint(0), 0);
        due("taint(1)", x.taint(1), 0);
    }

    private static void promise14NoneWhenThereIsNoSuchLiteral() {
        sentence(14, "NONE when there is no such literal");
        NetTwin x = Check.withInputs(2);
        x.and(2, 4);
        x.set(1, true, 1);
        x.set(0, false, 1);
        x.twin();
        due("hangs(6), the last node", x.hangs(6), 1);
        due("hangs(7), the last node", x.hangs(7), 1);
        int[] missing = {LEAST, LEAST + 1, -2, -1, 8, 9, 21, 22, 929, 930, 931, GREATEST - 1, GREATEST};
        for (int literal : missing) {
            due("hangs(" + literal + ")", x.hangs(literal), -1);
        }
    }

    private static void promise14NoneWhenMoreThan8InputsAreTainted() {
        sentence(14, "NONE when more than 8 inputs are tainted");
        NetTwin x = Check.withInputs(64);
        int all = 1;
        for (int i = 0; i < 8; i++) {
            all = x.and(all, 2 * (i + 1));
            x.set(i, true, 1);
        }
        due("hangs(all), 8 tainted", x.hangs(all), 1);
        due("hangs(128), 8 tainted", x.hangs(128), 0);
        due("hangs(1), 8 tainted", x.hangs(1), 0);
        due("set(0, true, 5), no other one", x.set(0, true, 5), 1);
        due("hangs(all), 8 tainted still", x.hangs(all), 1);
        x.set(63, true, 1);
        int[] literals = {0, 1, 2, 3, 18, 128, all, all + 1};
        for (int literal : literals) {
            due("hangs(" + literal + "), 9 tainted", x.hangs(literal), -1);
        }
        x.set(0, true, 0);
        due("hangs(all), 8 others tainted", x.hangs(all), 0);
        due("hangs(128), 8 others tainted", x.hangs(128), 1);
        for (int i = 0; i < 64; i++) {
            x.set(i, true, 1);
        }
        due("hangs(2), 64 tainted", x.hangs(2), -1);
        due("hangs(0), 64 tainted", x.hangs(0), -1);
        due("taint(2), 64 tainted", x.taint(2), 1);
    }
}
