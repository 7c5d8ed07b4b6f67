import java.io.IOException;
import java.nio.charset.StandardCharsets;
import java.nio.file.Files;
import java.nio.file.Path;
import java.util.List;
import java.util.Set;
import java.util.TreeSet;
import java.util.regex.Matcher;
import java.util.regex.Pattern;

/** Those rules of ../shared/LANGUAGE.md that can be seen in the text of the program. */
public final class LanguageTest {
    private static final Check check = new Check();
    private static final Set<String> CLASSES =
        Set.of("BargeChess", "Board", "History", "Game", "Past", "MoveText", "Refusal", "Math");

    public static void main(String[] args) throws IOException {
        String source = Files.readString(Path.of("src/main/java/BargeChess.java"), StandardCharsets.US_ASCII);
        String code = source.replaceAll("(?s)/\\*.*?\\*/", "").replaceAll("//[^\n]*", "");
        words(code);
        library(code);
        sizes(code.lines().toList());
        check.end("LanguageTest");
    }

    private static void words(String code) {
        for (String word : List.of("import", "package", "throw", "try", "catch", "synchronized", "assert", "->", "::",
            "\"", "Float", "System", "double", "protected", "instanceof", "static \\{", "while \\(true", "for \\(;;")) {
            Matcher found = Pattern.compile(Character.isLetter(word.charAt(0)) ? "\\b" + word : word).matcher(code);
            check.due(word, found.find() ? 1 : 0, 0);
        }
        Matcher open = Pattern.compile("^    (?!private|public|\\}|//|\\s)\\S.*$", Pattern.MULTILINE).matcher(code);
        check.due("a member without private or public", open.find() ? open.group().trim() : "", "");
        Matcher statics = Pattern.compile("static (?!final)\\w+(\\[\\])? \\w+( =|;)").matcher(code);
        check.due("static state", statics.find() ? statics.group() : "", "");
    }

    private static void library(String code) {
        Set<String> names = new TreeSet<>();
        Matcher name = Pattern.compile("\\b[A-Z][a-z]\\w*\\b").matcher(code);
        while (name.find()) {
            names.add(name.group());
        }
        names.removeAll(CLASSES);
        check.due("names of other classes", names.toString(), "[]");
    }

    private static void sizes(List<String> lines) {
        int classes = 0;
        int fields = 0;
        int begun = 0;
        for (int i = 0; i < lines.size(); i++) {
            String line = lines.get(i);
            if (line.matches(" *(public|private static) final class .*")) {
                classes++;
                fields = 0;
            } else if (line.matches(" *private (?!static).*;")) {
                fields++;
                check.due("at most twenty fields: " + line.trim(), fields <= 20 ? 1 : 0, 1);
            } else if (line.matches(" *(public|private).*\\) \\{")) {
                begun = i;
                check.due("at most seven parameters: " + line.trim(), line.split(",").length <= 7 ? 1 : 0, 1);
            } else if (line.matches("    (    )?\\}")) {
                check.due("at most sixty lines up to " + i, i - begun < 60 || line.equals("    }") ? 1 : 0, 1);
            }
        }
        check.due("at most twelve classes", classes <= 12 ? 1 : 0, 1);
    }
}
