import java.lang.reflect.Constructor;
import java.lang.reflect.Field;
import java.lang.reflect.Method;
import java.lang.reflect.Modifier;
import java.nio.file.Files;
import java.nio.file.Path;
import java.util.Set;
import java.util.TreeSet;
import java.util.regex.Matcher;
import java.util.regex.Pattern;

/** The face of the document and nothing beside it, and those rules of LANGUAGE.md that a text shows. */
public final class FaceTest {
    private static final Check CHECK = new Check();

    private static final Set<String> FACE = Set.of(
            "public static final int NetTwin.NONE",
            "public NetTwin()",
            "public int NetTwin.input()",
            "public int NetTwin.and(int,int)",
            "public int NetTwin.or(int,int)",
            "public int NetTwin.xor(int,int)",
            "public int NetTwin.choose(int,int,int)",
            "public int NetTwin.nodes(boolean)",
            "public int NetTwin.gate(boolean,int,int)",
            "public int NetTwin.twin()",
            "public int NetTwin.twinOf(int,boolean)",
            "public int NetTwin.set(int,boolean,int)",
            "public int NetTwin.bit(boolean,int)",
            "public int NetTwin.taint(int)",
            "public int NetTwin.hangs(int)");

    private static final String[] RULED_OUT = {
        "\\bimport\\b", "\\bpackage\\b", "->", "::", "\\btry\\b", "\\bcatch\\b", "\\bfinally\\b", "\\bthrow\\b",
        "\\bthrows\\b", "\\bsynchronized\\b", "\\bassert\\b", "\\bwhile \\(true\\)", "\\bSystem\\b", "\\bdouble\\b",
        "\\bfloat\\b", "\\bObject\\b", "@", "Exact\\b"
    };

    public static void main(String[] args) throws Exception {
        theFaceIsTheDocuments();
        privateNamesAreNoPublicOnes();
        theTextKeepsTheRules();
        CHECK.end();
    }

    private static void theFaceIsTheDocuments() {
        Set<String> found = new TreeSet<>();
        for (Field field : NetTwin.class.getDeclaredFields()) {
            if (!Modifier.isPrivate(field.getModifiers())) {
                found.add(field.toString());
            }
        }
        for (Constructor<?> made : NetTwin.class.getDeclaredConstructors()) {
            found.add(made.toString());
        }
        for (Method method : NetTwin.class.getDeclaredMethods()) {
            if (!Modifier.isPrivate(method.getModifiers())) {
                found.add(method.toString());
            }
        }
        CHECK.holds("the face is " + found, found.equals(FACE));
        int modifiers = NetTwin.class.getModifiers();
        CHECK.holds("public and final", Modifier.isPublic(modifiers) && Modifier.isFinal(modifiers));
    }

    private static void privateNamesAreNoPublicOnes() {
        Set<String> names = new TreeSet<>();
        for (Method method : NetTwin.class.getMethods()) {
            names.add(method.getName());
        }
        for (Method method : NetTwin.class.getDeclaredMethods()) {
            checkName(names, method);
        }
        for (Class<?> inside : NetTwin.class.getDeclaredClasses()) {
            CHECK.holds(inside + " is static", Modifier.isStatic(inside.getModifiers()));
            CHECK.holds(inside + " is not public", !Modifier.isPublic(inside.getModifiers()));
            for (Method method : inside.getDeclaredMethods()) {
                checkName(names, method);
            }
        }
    }

    private static void checkName(Set<String> names, Method method) {
        boolean hidden = !Modifier.isPublic(method.getModifiers());
        CHECK.holds(method + " has a name of its own", !hidden || !names.contains(method.getName()));
    }

    private static void theTextKeepsTheRules() throws Exception {
        String text = Files.readString(Path.of("src/main/java/NetTwin.java"));
        String code = text.replaceAll("(?s)/\\*.*?\\*/", "").replaceAll("//.*", "");
        for (String word : RULED_OUT) {
            CHECK.holds("the program is without " + word, !Pattern.compile(word).matcher(code).find());
        }
        // What a run makes is counted: only the two constructors make anything.
        Matcher made = Pattern.compile("\\bnew (\\w+)").matcher(code);
        int rows = 0;
        while (made.find()) {
            rows++;
        }
        CHECK.due("how often the program makes an object or a row", rows, 11);
    }
}
