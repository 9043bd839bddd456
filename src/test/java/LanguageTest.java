import java.io.IOException;
import java.nio.file.Files;
import java.nio.file.Path;
import java.util.HashSet;
import java.util.List;
import java.util.Set;
import java.util.regex.Matcher;
import java.util.regex.Pattern;

/** Looks through JoinNet.java for what LANGUAGE.md rules out, as far as a search can find it. */
public final class LanguageTest {
    private static final Path SOURCE = Path.of("src/main/java/JoinNet.java");
    private static final Pattern METHOD = Pattern.compile("(\\w+)\\(([^()]*)\\)(\\s+throws [\\w, ]+)?\\s*\\{$");
    private static int wrong;

    public static void main(String[] args) throws IOException {
        List<String> lines = Files.readAllLines(SOURCE);
        for (int i = 0; i < lines.size(); i++) {
            words(i + 1, lines.get(i));
        }
        methods(lines);
        names(String.join("\n", lines));
        System.out.println("LanguageTest: " + lines.size() + " lines, " + wrong + " wrong");
        if (wrong != 0) {
            System.exit(1);
        }
    }

    private static void isWrong(int line, String what) {
        wrong++;
        System.out.println(SOURCE + ":" + line + ": " + what);
    }

    private static void words(int number, String line) {
        String code = line.replaceAll("\"[^\"]*\"", "\"\"").replaceAll("//.*", "").replaceAll("/\\*\\*.*", "");
        String[] bad = {"->", "::", "\\bfinally\\b", "\\bassert\\b", "\\bsynchronized\\b", "\\btry\\b", "\\bcatch\\b",
            "Exact\\(", "\\bpackage\\b", "\\bprotected\\b", "\\binstanceof\\b", "\\bRandom\\b", "System\\.(?!arraycopy)",
            "\"\" \\+|\\+ \"\"", "\\b(equals|hashCode|toString)\\(", "\\bvar\\b", "\\[\\]\\[\\]\\[\\]", "static \\{",
            "_VALUE\\b"};
        for (String word : bad) {
            if (Pattern.compile(word).matcher(code).find()) {
                isWrong(number, "has " + word);
            }
        }
        if (code.startsWith("import") && !code.equals("import java.util.Arrays;")) {
            isWrong(number, "another import");
        }
        if (code.matches(".*\\bthrow\\b.*") && !code.matches("\\s+throw new Illegal(Argument|State)Exception\\(\"\"\\);")
                && !code.matches("\\s+throw new IndexOutOfBoundsException\\(\"\"\\);")) {
            isWrong(number, "throws something else");
        }
    }

    /** At most sixty lines and seven parameters; the source's own layout tells where a method begins and ends. */
    private static void methods(List<String> lines) {
        for (int i = 0; i < lines.size(); i++) {
            String line = lines.get(i);
            String whole = line.endsWith("{") && i > 0 && !line.contains("(") ? lines.get(i - 1) + line : line;
            Matcher matcher = METHOD.matcher(whole);
            boolean isMethod = matcher.find() && !whole.matches("\\s*(\\} )?(else )?(if|for|while|switch)\\b.*");
            if (!isMethod) {
                continue;
            }
            if (matcher.group(2).split(",").length > 7) {
                isWrong(i + 1, "too many parameters");
            }
            String close = whole.replaceAll("\\S.*", "") + "}";
            int end = i;
            while (end < lines.size() && !lines.get(end).equals(close)) {
                end++;
            }
            if (end - i > 59) {
                isWrong(i + 1, "a method of " + (end - i + 1) + " lines");
            }
        }
    }

    /** Classes at most some twelve; no method inside bears the name of a public one. */
    private static void names(String source) {
        Set<String> faces = new HashSet<>();
        Matcher face = Pattern.compile("\n    public \\w+ (\\w+)\\(").matcher(source);
        while (face.find()) {
            faces.add(face.group(1));
        }
        Matcher inside = Pattern.compile("\n +(?:private |static |final )*[\\w\\[\\]]+ (\\w+)\\([^;=]*\\{\n").matcher(source);
        while (inside.find()) {
            boolean isFace = inside.group().startsWith("\n    public");
            if (!isFace && faces.contains(inside.group(1))) {
                isWrong(0, "a private method " + inside.group(1));
            }
        }
        if (source.split("\\bclass \\w+ \\{").length - 1 > 12) {
            isWrong(0, "more than twelve classes");
        }
        if (faces.size() != 27) {
            isWrong(0, faces.size() + " public methods");
        }
    }
}
