import java.lang.reflect.Constructor;
import java.lang.reflect.Field;
import java.lang.reflect.Method;
import java.lang.reflect.Modifier;
import java.nio.file.Files;
import java.nio.file.Path;
import java.util.Arrays;
import java.util.HashSet;
import java.util.List;
import java.util.Set;
import java.util.regex.Matcher;
import java.util.regex.Pattern;

/** The public face, and those rules of LANGUAGE.md that can be read off the class and its text. */
public final class FaceTest {
    private static final Due T = new Due();
    private static final List<String> METHODS = Arrays.asList("branch/2", "ball/3", "say/1", "wipe/0", "fault/0",
        "judge/1", "done/0", "behind/2", "then/1", "apart/2", "meets/2", "sees/1", "near/1", "room/2", "candles/2",
        "seen/2", "forget/0", "where/1", "ask/1", "cut/1", "tissue/6", "year/3", "image/1", "restore/1", "told/1");
    private static final List<String> CONSTANTS =
        Arrays.asList("NONE", "UNKNOWN", "OUTSIDE", "STATE", "FULL", "NO", "LOST");
    private static final List<String> NOT_IN_TEXT = Arrays.asList("import ", "package ", "->", "::", "catch", "throw ",
        "finally", "synchronized", "assert ", "static {", "System.", "Exact(", "equals", "hashCode", "toString");

    private static void check(String what, boolean holds) {
        T.due(what, holds ? 1 : 0, 1);
    }

    private static void constants() {
        T.due("NONE", BaubleHill.NONE, -6);
        T.due("UNKNOWN", BaubleHill.UNKNOWN, -1);
        T.due("OUTSIDE", BaubleHill.OUTSIDE, -2);
        T.due("STATE", BaubleHill.STATE, -3);
        T.due("FULL", BaubleHill.FULL, -4);
        T.due("NO", BaubleHill.NO, -5);
        T.due("LOST", BaubleHill.LOST, -1000000000000000000L);
    }

    private static void members() {
        check("public and final", Modifier.isPublic(BaubleHill.class.getModifiers())
            && Modifier.isFinal(BaubleHill.class.getModifiers()));
        Set<String> due = new HashSet<>(METHODS);
        Set<String> names = new HashSet<>();
        for (String method : METHODS) names.add(method.substring(0, method.indexOf('/')));
        for (Method method : BaubleHill.class.getDeclaredMethods()) {
            String name = method.getName() + "/" + method.getParameterCount();
            if (Modifier.isPublic(method.getModifiers())) {
                check("public " + name, due.remove(name) && !Modifier.isStatic(method.getModifiers()));
                check(name + " answers", method.getReturnType()
                    == (name.equals("tissue/6") ? long.class : int.class));
            } else {
                check("private " + name, Modifier.isPrivate(method.getModifiers()) && !names.contains(method.getName()));
            }
        }
        check("methods that are not there: " + due, due.isEmpty());
        for (Constructor<?> made : BaubleHill.class.getDeclaredConstructors()) {
            check("constructor", Modifier.isPublic(made.getModifiers()) && made.getParameterCount() == 0);
        }
        for (Field field : BaubleHill.class.getDeclaredFields()) {
            boolean constant = CONSTANTS.contains(field.getName());
            check("field " + field.getName(), constant == Modifier.isPublic(field.getModifiers())
                && constant != Modifier.isPrivate(field.getModifiers()));
        }
    }

    private static boolean bearsNameOfTheFace(Method method) {
        for (String face : METHODS) if (face.startsWith(method.getName() + "/")) return true;
        return false;
    }

    private static void classes() {
        Class<?>[] inside = BaubleHill.class.getDeclaredClasses();
        check("twelve classes at the most", inside.length + 1 <= 12);
        for (Class<?> c : inside) {
            check(c + " is private and static", Modifier.isPrivate(c.getModifiers())
                && Modifier.isStatic(c.getModifiers()));
            for (Field field : c.getDeclaredFields()) {
                check(field + " is final, if static", !Modifier.isStatic(field.getModifiers())
                    || Modifier.isFinal(field.getModifiers()));
            }
            for (Method method : c.getDeclaredMethods()) {
                check(method + " has seven parameters at the most", method.getParameterCount() <= 7);
                check(method + " does not bear a name of the face", !bearsNameOfTheFace(method));
            }
        }
    }

    /** Each line of the document's face stands in the class, and each of its parts below its heading. */
    private static void document() throws java.io.IOException {
        String doc = Files.readString(Path.of("../shared/DOC.md"));
        String text = Files.readString(Path.of("src/main/java/BaubleHill.java"));
        int lines = 0;
        for (String line : doc.substring(doc.indexOf("```java"), doc.indexOf("## Terms")).split("\n")) {
            if (!line.startsWith("    public ")) continue;
            lines++;
            check("the class has" + line, text.contains("\n" + (line.contains("(") ? line.replace(";", " {") : line) + "\n"));
        }
        T.due("lines of the face", lines, 2 + 1 + METHODS.size());
        Matcher part = Pattern.compile("(?m)^Ahead of the calls (.*) the interface says: (.*)\\.$").matcher(doc);
        int calls = 0;
        int end = 0;
        while (part.find()) {
            int heading = text.indexOf("// " + part.group(2) + "\n");
            check(part.group(2) + " is ahead of its calls", heading > end);
            for (String name : part.group(1).replaceAll("[`,]", "").split(" ")) {
                int call = text.indexOf(" " + name + "(", heading);
                check(name + " follows " + part.group(2), call > Math.max(heading, end));
                end = call;
                calls++;
            }
        }
        T.due("calls below headings", calls, METHODS.size());
    }

    private static void text() throws java.io.IOException {
        List<String> lines = Files.readAllLines(Path.of("src/main/java/BaubleHill.java"));
        for (String line : lines) {
            for (String word : NOT_IN_TEXT) check("no '" + word + "': " + line, !line.contains(word));
            for (int i = 0; i < line.length(); i++) check("plain sign: " + line, line.charAt(i) < 128);
        }
    }

    public static void main(String[] args) throws java.io.IOException {
        constants();
        members();
        classes();
        document();
        text();
        T.end();
    }
}
