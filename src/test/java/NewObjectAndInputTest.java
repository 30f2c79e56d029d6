/** Promises 1 and 2. */
public final class NewObjectAndInputTest {
    private static final Check CHECK = new Check();

    public static void main(String[] args) {
        newObjectIsNodeZeroAlone();
        inputsAreNumberedAsTheyCome();
        inputsAndGatesShareTheNumbers();
        atMost64Inputs();
        anInputEndsTheTwin();
        aRefusedInputLeavesTheTwin();
        CHECK.end();
    }

    private static void newObjectIsNodeZeroAlone() {
        NetTwin x = new NetTwin();
        CHECK.due("NONE", NetTwin.NONE, -1);
        CHECK.due("new: nodes(false)", x.nodes(false), 1);
        CHECK.due("new: nodes(true)", x.nodes(true), 0);
        CHECK.due("new: bit(false, 0)", x.bit(false, 0), 0);
        CHECK.due("new: bit(false, 1)", x.bit(false, 1), 1);
        CHECK.due("new: bit(false, 2)", x.bit(false, 2), -1);
        CHECK.due("new: bit(true, 0)", x.bit(true, 0), -1);
        CHECK.due("new: twinOf(0, false)", x.twinOf(0, false), -1);
        CHECK.due("new: twinOf(1, true)", x.twinOf(1, true), -1);
        CHECK.due("new: set(0, false, 1)", x.set(0, false, 1), -1);
        CHECK.due("new: gate(false, 0, 0)", x.gate(false, 0, 0), -1);
        NetTwin other = new NetTwin();
        other.input();
        CHECK.due("objects stand apart", x.nodes(false), 1);
    }

    private static void inputsAreNumberedAsTheyCome() {
        NetTwin x = new NetTwin();
        CHECK.due("first input()", x.input(), 2);
        CHECK.due("second input()", x.input(), 4);
        CHECK.due("nodes(false)", x.nodes(false), 3);
        CHECK.due("bit(false, 2)", x.bit(false, 2), 0);
        CHECK.due("bit(false, 3)", x.bit(false, 3), 1);
        CHECK.due("taint(2)", x.taint(2), 0);
        CHECK.due("bit(false, 6)", x.bit(false, 6), -1);
    }

    private static void inputsAndGatesShareTheNumbers() {
        NetTwin x = Check.withInputs(2);
        CHECK.due("and(2, 4)", x.and(2, 4), 6);
        CHECK.due("input() behind a gate", x.input(), 8);
        CHECK.due("and(6, 8)", x.and(6, 8), 10);
        x.set(0, false, 1);
        x.set(1, false, 1);
        x.set(2, false, 1);
        CHECK.due("bit(false, 8)", x.bit(false, 8), 1);
        CHECK.due("bit(false, 10)", x.bit(false, 10), 1);
    }

    private static void atMost64Inputs() {
        NetTwin x = Check.withInputs(63);
        CHECK.due("input() 64", x.input(), 128);
        CHECK.due("input() 65", x.input(), -1);
        CHECK.due("nodes(false)", x.nodes(false), 65);
        CHECK.due("bit(false, 130)", x.bit(false, 130), -1);
        CHECK.due("set(63, false, 1)", x.set(63, false, 1), 0);
        CHECK.due("bit(false, 128)", x.bit(false, 128), 1);
        CHECK.due("set(64, false, 1)", x.set(64, false, 1), -1);
        CHECK.due("and(2, 128)", x.and(2, 128), 130);
        CHECK.due("twin()", x.twin(), 1 + 128 + 6);
    }

    private static void anInputEndsTheTwin() {
        NetTwin x = Check.withInputs(1);
        CHECK.due("twin()", x.twin(), 3);
        CHECK.due("nodes(true)", x.nodes(true), 3);
        x.input();
        CHECK.due("nodes(true) after input()", x.nodes(true), 0);
        CHECK.due("twinOf(2, false) after input()", x.twinOf(2, false), -1);
        CHECK.due("bit(true, 2) after input()", x.bit(true, 2), -1);
    }

    private static void aRefusedInputLeavesTheTwin() {
        NetTwin x = Check.withInputs(64);
        CHECK.due("twin()", x.twin(), 129);
        CHECK.due("input() 65", x.input(), -1);
        CHECK.due("nodes(true) after a refused input()", x.nodes(true), 129);
    }
}
