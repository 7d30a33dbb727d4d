import java.io.IOException;
import java.nio.file.Files;
import java.nio.file.Path;
import java.util.ArrayList;
import java.util.BitSet;
import java.util.LinkedHashMap;
import java.util.List;
import java.util.Map;

/** The sections of ../shared/DOC.md, and which of their words a test has spoken of. */
final class Doc {
    static final String TERMS = "Terms", WHOLE = "What it is";

    private final Map<String, String> texts = new LinkedHashMap<>();
    private final Map<String, BitSet> spoken = new LinkedHashMap<>();

    Doc() throws IOException {
        for (String section : Files.readString(Path.of("../shared/DOC.md")).split("(?m)^## ")) {
            String name = section.substring(0, section.indexOf('\n')).replaceAll(":.*", "").trim();
            texts.put(name, plain(section.substring(section.indexOf('\n'))));
            spoken.put(name, new BitSet());
        }
    }

    /** Leaves out what is no sentence of a promise: the interface's headings, fences, part numbers, signatures. */
    private static String plain(String section) {
        return section.replaceAll("(?m)^Ahead of the calls .*", " ").replaceAll("```(text)?", " ")
            .replaceAll("======== \\d", " ").replaceAll("`[^`]*`: ", " ").replaceAll("\\s+", " ").trim();
    }

    /** The sections of which each word is to be spoken of: the Terms, and the promises. */
    List<String> promising() {
        List<String> names = new ArrayList<>();
        for (String name : texts.keySet()) if (name.equals(TERMS) || name.startsWith("Promise ")) names.add(name);
        return names;
    }

    /** Marks the words as spoken of; whether they stand in the section. */
    boolean speakOf(String section, String words) {
        String text = texts.getOrDefault(section, "");
        int at = text.indexOf(words);
        boolean stands = at >= 0;
        for (; at >= 0; at = text.indexOf(words, at + 1)) spoken.get(section).set(at, at + words.length());
        return stands;
    }

    /** The words of a section of which no test has spoken. */
    String unspoken(String section) {
        String text = texts.get(section);
        StringBuilder left = new StringBuilder();
        for (int i = 0; i < text.length(); i++) {
            boolean said = spoken.get(section).get(i) || !Character.isLetterOrDigit(text.charAt(i));
            if (!said) left.append(text.charAt(i));
            else if (left.length() > 0 && left.charAt(left.length() - 1) != ' ') left.append(' ');
        }
        return left.toString().trim();
    }
}
