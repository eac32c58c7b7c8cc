import java.io.IOException;
import java.nio.file.Files;
import java.nio.file.Path;
import java.util.ArrayList;
import java.util.LinkedHashMap;
import java.util.List;
import java.util.Map;

/** The document's sections, and which of their words a test stands for. */
final class Document {
    private static final String TERMS = "Terms";
    private final Map<String, String> sections = new LinkedHashMap<>();
    private final Map<String, boolean[]> tested = new LinkedHashMap<>();

    Document(Path file) throws IOException {
        for (String part : Files.readString(file).split("(?m)^## ")) {
            int line = part.indexOf('\n');
            if (line < 0 || part.startsWith("#")) continue;
            String title = part.substring(0, line).replaceAll(":.*", "").trim();
            String body = plain(part.substring(line));
            sections.put(title, body);
            tested.put(title, new boolean[body.length()]);
        }
    }

    /** A section's sentences alone: no fences, no marks and titles of its parts, no line of the face. */
    private static String plain(String body) {
        return body.replaceAll("```\\w*", " ").replaceAll("==== \\d (THE TEXT\\.|MAKING\\.)?", " ")
            .replaceAll("`[^`]*`:", " ").replaceAll("\\s+", " ");
    }

    /** Marks the words in the first section that has them, one of the promises' own if it can be. */
    boolean mark(int[] promises, String words) {
        List<String> titles = new ArrayList<>();
        for (int p : promises) titles.add("Promise " + p);
        titles.add(TERMS);
        titles.addAll(sections.keySet());
        for (String title : titles) {
            if (markIn(title, words)) return true;
        }
        return false;
    }

    private boolean markIn(String title, String words) {
        String body = sections.get(title);
        if (body == null) return false;
        int from = body.indexOf(words);
        boolean found = from >= 0;
        while (from >= 0) {
            for (int i = 0; i < words.length(); i++) tested.get(title)[from + i] = true;
            from = body.indexOf(words, from + 1);
        }
        return found;
    }

    /** The words that no test stands for, of all sections but the one that promises nothing. */
    List<String> untested() {
        List<String> all = new ArrayList<>();
        for (String title : sections.keySet()) {
            if (!title.equals("Not promised")) gather(title, all);
        }
        return all;
    }

    private void gather(String title, List<String> into) {
        StringBuilder words = new StringBuilder();
        String body = sections.get(title);
        for (int i = 0; i <= body.length(); i++) {
            if (i < body.length() && !tested.get(title)[i]) {
                words.append(body.charAt(i));
                continue;
            }
            if (words.chars().anyMatch(Character::isLetterOrDigit)) into.add(title + ": " + words.toString().trim());
            words.setLength(0);
        }
    }

    int promises() {
        return (int) sections.keySet().stream().filter(title -> title.startsWith("Promise ")).count();
    }
}
