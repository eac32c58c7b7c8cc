import java.io.IOException;
import java.nio.file.Files;
import java.nio.file.Path;
import java.util.ArrayList;
import java.util.List;
import java.util.regex.Matcher;
import java.util.regex.Pattern;

/** Rules of ../shared/LANGUAGE.md that can be seen in the source: words, the face, the size of methods. */
public final class RulesTest {
    private static final String SOURCE = "src/main/java/ShapeEngine.java";
    private static final String[] FACE = {"feed", "read", "fault", "run", "told", "paper", "printed", "object",
        "member", "worth", "letter", "row", "item", "shape", "site", "fn", "count"};

    public static void main(String[] args) throws IOException {
        String source = Files.readString(Path.of(SOURCE));
        String code = source.replaceAll("(?s)/\\*.*?\\*/", "").replaceAll("//[^\n]*", "")
            .replaceAll("\"[^\"\n]*\"", "\"\"");
        words(code);
        face(code);
        methods(code);
        Check.due("classes, 12 at most", Math.min(12, occurrences(code, "\\bclass\\s+\\w+")), occurrences(code, "\\bclass\\s+\\w+"));
        Check.end();
    }

    private static int occurrences(String code, String pattern) {
        Matcher m = Pattern.compile(pattern).matcher(code);
        int n = 0;
        while (m.find()) n++;
        return n;
    }

    private static void words(String code) {
        String[] never = {"throw", "throws", "try", "catch", "finally", "synchronized", "assert", "protected",
            "System\\.(?!arraycopy)\\w+", "Thread", "Random", "Object", "String\\.format", "->", "::", "\\bpackage\\b",
            "Exact\\b", "static\\s*\\{"};
        for (String word : never) {
            String pattern = Character.isLetter(word.charAt(0)) ? "\\b" + word + "\\b" : word;
            Check.due("uses of " + word, occurrences(code, pattern), 0);
        }
        Check.due("imports", occurrences(code, "\\bimport\\b"), occurrences(code, "import java\\.util\\.Arrays;"));
        Check.due("static fields that are not final", occurrences(code, "\\bstatic\\s+(?!final|class)[\\w\\[\\]]+\\s+\\w+\\s*[=;]"), 0);
        Check.due("arrays of rows of objects", occurrences(code, "\\[\\]\\[\\]"), 0);
    }

    private static void face(String code) {
        // One public class, one constructor, the methods, and the line of constants.
        Check.due("public members", occurrences(code, "\\bpublic\\b"), FACE.length + 3);
        for (String name : FACE) {
            Check.due("declarations of " + name, occurrences(code, "\\b(int|long|void|boolean)\\s+" + name + "\\("), 1);
        }
    }

    private static void methods(String code) {
        String[] lines = code.split("\n");
        List<Integer> starts = new ArrayList<>();
        Pattern head = Pattern.compile("^ {4,8}(?! )[\\w\\s\\[\\]]*\\w+\\(([^()]*)\\) \\{$");
        for (int i = 0; i < lines.length; i++) {
            Matcher m = head.matcher(lines[i]);
            if (!m.matches()) continue;
            starts.add(i);
            int takes = m.group(1).isBlank() ? 0 : m.group(1).split(",").length;
            Check.due("parameters, 7 at most: " + lines[i].trim(), Math.min(7, takes), takes);
            String end = lines[i].replaceAll("\\S.*", "") + "}";
            int j = i;
            while (j < lines.length && !lines[j].equals(end)) j++;
            Check.due("lines, 60 at most: " + lines[i].trim(), Math.min(60, j - i + 1), j - i + 1);
        }
        Check.due("methods were found", starts.size() > 100 ? 1 : 0, 1);
    }
}
