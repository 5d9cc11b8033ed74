import java.io.IOException;
import java.nio.file.Files;
import java.nio.file.Path;
import java.util.Set;
import java.util.TreeSet;
import java.util.regex.Matcher;
import java.util.regex.Pattern;

/** The rules of LANGUAGE.md that can be seen from the text of the class. */
public final class LanguageTest {
    private static final Check CHECK = new Check();
    private static final Set<String> FACE = Set.of("feed", "back", "read", "place", "spot", "claim", "winner", "dam",
        "turn", "rule", "months", "undo", "agree", "behind", "margin", "richest", "rank", "vote", "dams", "loss",
        "main", "driest", "turnFor", "damFor", "depth", "order", "basin", "part", "reign", "tour", "parted", "meet",
        "when", "then", "flowIn", "year", "tell", "forget", "dyed", "watch", "hold", "restore", "count");

    public static void main(String[] args) throws IOException {
        String source = Files.readString(Path.of("src/main/java/SourceDispute.java"));
        String code = source.replaceAll("(?s)/\\*.*?\\*/", " ").replaceAll("//[^\n]*", " ")
            .replaceAll("\"[^\"\n]*\"", "TEXT").replaceAll("'[^'\n]*'", "SIGN");
        words(code);
        face(code);
        shape(source);
        CHECK.finish();
    }

    private static int many(String pattern, String code) {
        Matcher m = Pattern.compile(pattern).matcher(code);
        int many = 0;
        while (m.find()) {
            many++;
        }
        return many;
    }

    private static void words(String code) {
        CHECK.title("words");
        for (String word : new String[] {"throw", "throws", "try", "catch", "synchronized", "assert", "package",
            "protected", "System\\.(?!arraycopy)", "Random", "Thread", "::", "->", "Exact", "instanceof",
            "TEXT *\\+", "\\+ *TEXT", "hashCode", "toString", "float", "double",
            "Integer\\.(?!bitCount\\()", "Math\\.(?!(max|min)\\()", "Arrays\\.(?!fill\\()"}) {
            String pattern = Character.isLetter(word.charAt(0)) && word.matches("\\w+") ? "\\b" + word + "\\b" : word;
            CHECK.due("uses of " + word, many(pattern, code), 0);
        }
        CHECK.due("imports", many("\\bimport\\b", code), many("import java\\.util\\.Arrays;", code));
        CHECK.due("rows made in methods", many("new (int|long|byte|boolean|Course)\\[", code),
            many("(?m)^ +(private final \\S+ \\w+|slots|tally) = new (int|long|byte|boolean|Course)\\[", code));
    }

    private static void face(String code) {
        CHECK.title("face");
        Set<String> shown = new TreeSet<>();
        Matcher m = Pattern.compile("(?m)^    public (?:int|boolean) (\\w+)\\(").matcher(code);
        while (m.find()) {
            shown.add(m.group(1));
        }
        CHECK.due("the face", shown.equals(new TreeSet<>(FACE)), true);
        CHECK.due("public ones", many("\\bpublic\\b", code), FACE.size() + 3);
        Matcher hidden = Pattern.compile("(?m)^ +(?:private |static |final )*[\\w\\[\\]]+ (\\w+)\\([^;]*\\) \\{").matcher(code);
        while (hidden.find()) {
            boolean isPublic = hidden.group().contains("public");
            CHECK.due("bears a public name: " + hidden.group(1), !isPublic && FACE.contains(hidden.group(1))
                && !hidden.group().trim().startsWith("public"), false);
        }
        CHECK.due("classes", many("\\bclass\\b", code) <= 12, true);
    }

    private static void shape(String source) {
        CHECK.title("shape");
        int from = -1;
        String[] lines = source.split("\n");
        for (int i = 0; i < lines.length; i++) {
            if (lines[i].matches("( {4}| {8})(?!private static final class)\\S.*\\) \\{")) {
                from = i;
            }
            if (from >= 0 && lines[i].matches("( {4}| {8})\\}")) {
                CHECK.due("lines of the method at " + (from + 1), i - from <= 60, true);
                from = -1;
            }
        }
    }
}
