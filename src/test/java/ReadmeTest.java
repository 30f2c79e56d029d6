import java.nio.file.Files;
import java.nio.file.Path;
import java.util.ArrayList;
import java.util.List;

/** README.md: each line of its example answers what stands behind it, and it names every test. */
public final class ReadmeTest {
    private static final Check CHECK = new Check();
    private static final List<String> LINES = new ArrayList<>();
    private static int read = 0;

    public static void main(String[] args) throws Exception {
        String page = Files.readString(Path.of("README.md"));
        readExample(page);
        makeTheNet();
        CHECK.due("all lines of the example are run", read, LINES.size());
        everyTestIsNamed(page);
        CHECK.end();
    }

    private static void readExample(String page) {
        int start = page.indexOf("```java\n") + "```java\n".length();
        for (String line : page.substring(start, page.indexOf("```", start)).split("\n")) {
            if (!line.isBlank()) {
                LINES.add(line);
            }
        }
    }

    /** The next line must be this call, and the number behind it what the call answered. */
    private static int line(String call, int answer) {
        String line = read < LINES.size() ? LINES.get(read) : "";
        read++;
        CHECK.holds("README's line is " + call + ": " + line, line.matches("\\Q" + call + "\\E; *// -?[0-9]+([,:] .*)?"));
        CHECK.holds(call + " answers " + answer + ": " + line, line.matches(".*// " + answer + "([,:] .*)?"));
        return answer;
    }

    private static void makeTheNet() {
        CHECK.holds("the example begins with an object", LINES.get(0).equals("NetTwin x = new NetTwin();"));
        read = 1;
        NetTwin x = new NetTwin();
        int a = line("int a = x.input()", x.input());
        int b = line("int b = x.input()", x.input());
        int c = line("int c = x.input()", x.input());
        int both = line("int both = x.and(a, b)", x.and(a, b));
        line("x.and(b, a)", x.and(b, a));
        line("x.and(a, a ^ 1)", x.and(a, a ^ 1));
        line("x.and(a, 99)", x.and(a, 99));
        line("x.or(a, b)", x.or(a, b));
        line("x.xor(a, b)", x.xor(a, b));
        line("x.choose(c, a, b)", x.choose(c, a, b));
        line("x.nodes(false)", x.nodes(false));
        line("x.gate(false, both / 2, 0)", x.gate(false, both / 2, 0));
        line("x.gate(false, both / 2, 1)", x.gate(false, both / 2, 1));
        line("x.gate(false, a / 2, 0)", x.gate(false, a / 2, 0));
        setTheInputs(x, a, b, both);
        askTheTwin(x, a, c, both);
    }

    private static void setTheInputs(NetTwin x, int a, int b, int both) {
        line("x.set(0, false, 1)", x.set(0, false, 1));
        line("x.set(1, true, 7)", x.set(1, true, 7));
        line("x.set(1, true, 1)", x.set(1, true, 1));
        line("x.set(3, false, 1)", x.set(3, false, 1));
        line("x.bit(false, both)", x.bit(false, both));
        line("x.bit(false, both ^ 1)", x.bit(false, both ^ 1));
        line("x.taint(both)", x.taint(both));
        line("x.hangs(both)", x.hangs(both));
        int never = line("int never = x.and(both, x.and(a, b ^ 1))", x.and(both, x.and(a, b ^ 1)));
        line("x.taint(never)", x.taint(never));
        line("x.hangs(never)", x.hangs(never));
    }

    private static void askTheTwin(NetTwin x, int a, int c, int both) {
        line("x.nodes(true)", x.nodes(true));
        line("x.twin()", x.twin());
        line("x.nodes(true)", x.nodes(true));
        line("x.twinOf(both, false)", x.twinOf(both, false));
        line("x.twinOf(both, true)", x.twinOf(both, true));
        line("x.gate(true, 7, 1)", x.gate(true, 7, 1));
        line("x.bit(true, x.twinOf(both, true))", x.bit(true, x.twinOf(both, true)));
        line("x.and(a, c ^ 1)", x.and(a, c ^ 1));
        line("x.nodes(true)", x.nodes(true));
        line("x.twinOf(both, true)", x.twinOf(both, true));
    }

    private static void everyTestIsNamed(String page) throws Exception {
        try (var files = Files.list(Path.of("src/test/java"))) {
            for (Path file : files.toList()) {
                String name = file.getFileName().toString().replace(".java", "");
                CHECK.holds("README.md names " + name, page.contains(name));
            }
        }
    }
}
