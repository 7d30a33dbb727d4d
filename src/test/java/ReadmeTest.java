import java.io.IOException;
import java.nio.file.Files;
import java.nio.file.Path;
import java.util.Map;
import java.util.regex.Matcher;
import java.util.regex.Pattern;

/** What README.md says: its example, answer by answer, and that it names each call of the face. */
public final class ReadmeTest {
    private static final Due T = new Due();
    private static final Pattern CALL = Pattern.compile("hill\\.(\\w+)\\(([^)]*)\\);");
    private static final Pattern ANSWER = Pattern.compile("// (-?\\d+|[A-Z]+)\\b.*");
    private static final Map<String, Integer> NAMES = Map.of("NONE", BaubleHill.NONE, "UNKNOWN", BaubleHill.UNKNOWN,
        "OUTSIDE", BaubleHill.OUTSIDE, "STATE", BaubleHill.STATE, "FULL", BaubleHill.FULL, "NO", BaubleHill.NO);

    private static Object[] numbers(String list) {
        String[] words = list.isEmpty() ? new String[0] : list.split(", ");
        Object[] numbers = new Object[words.length];
        for (int i = 0; i < words.length; i++) {
            numbers[i] = words[i].startsWith("'") ? Integer.valueOf(words[i].charAt(1)) : Integer.valueOf(words[i]);
        }
        return numbers;
    }

    /** A line's calls; the last one's answer is the number, or the name, with which the line's comment begins. */
    private static boolean answersAsSaid(BaubleHill hill, String line) {
        Matcher call = CALL.matcher(line);
        long got = Calls.THROWN;
        while (call.find()) got = Calls.answer(hill, call.group(1), numbers(call.group(2)));
        Matcher said = ANSWER.matcher(line);
        if (!said.find()) return false;
        Integer named = NAMES.get(said.group(1));
        T.due(line, got, named != null ? named : Long.parseLong(said.group(1)));
        return true;
    }

    public static void main(String[] args) throws IOException {
        String readme = Files.readString(Path.of("README.md"));
        int start = readme.indexOf("```java");
        BaubleHill hill = new BaubleHill();
        int answers = 0;
        for (String line : readme.substring(start, readme.indexOf("```\n", start)).split("\n")) {
            if (line.contains("hill.") && answersAsSaid(hill, line)) answers++;
        }
        T.due("the example has answers", Math.min(answers, 1), 1);
        for (String line : Files.readAllLines(Path.of("src/main/java/BaubleHill.java"))) {
            Matcher face = Pattern.compile("    public (?:int|long) (\\w+)\\((.*)\\) \\{").matcher(line);
            if (!face.matches()) continue;
            String call = "`" + face.group(1) + "(" + face.group(2).replaceAll("int ", "") + ")`";
            T.due("README.md tells of " + call, readme.contains(call) ? 1 : 0, 1);
        }
        T.end();
    }
}
