import java.io.IOException;
import java.nio.file.Files;
import java.nio.file.Path;
import java.util.List;
import java.util.regex.Matcher;
import java.util.regex.Pattern;

/** The rules of LANGUAGE.md that can be seen from the source's words alone. */
public final class LanguageTest {
    private static final String[] NEVER = {"\\btry\\b", "\\bcatch\\b", "\\bfinally\\b", "->", "::", "\\bsynchronized\\b", "\\bassert\\b", "\\bthrows (?!IndexOutOfBoundsException, NoSuchElementException \\{)",
        "\\bdouble\\b", "\\bfloat\\b", "\\bThread\\b", "\\bRandom\\b", "Exact\\(", "\\bprotected\\b", "\\bObject\\b", "\\btoString\\b", "\\bhashCode\\b", "System\\.(?!arraycopy)", "\\bpackage\\b",
        "\\bstatic \\{", "\\bvar\\b", "\\[\\]\\[\\]\\[\\]"};
    private static int wrong = 0;

    private static void complain(int line, String what) {
        wrong++;
        System.out.println("line " + line + ": " + what);
    }

    private static String code(String line) {
        String bare = line.replaceAll("\"[^\"]*\"", "\"\"").replaceAll("//.*", "");
        return bare.trim().startsWith("/*") || bare.trim().startsWith("*") ? "" : bare;
    }

    public static void main(String[] args) throws IOException {
        List<String> lines = Files.readAllLines(Path.of("src/main/java/ShadowPool.java"));
        int classes = 0;
        int methodFrom = 0;
        for (int i = 0; i < lines.size(); i++) {
            String line = code(lines.get(i));
            for (String never : NEVER) {
                if (Pattern.compile(never).matcher(line).find()) {
                    complain(i + 1, never);
                }
            }
            if (line.startsWith("import ") && !line.equals("import java.util.NoSuchElementException;")) {
                complain(i + 1, "an import");
            }
            if (lines.get(i).chars().anyMatch(c -> c > 126)) {
                complain(i + 1, "a sign above 126");
            }
            if (Pattern.compile("\\bclass\\b").matcher(line).find()) {
                classes++;
            }
            Matcher head = Pattern.compile("^ {4,8}(public|private|static|final|void|int|long|boolean)\\b.*\\((.*)\\).*\\{$").matcher(line);
            if (head.find()) {
                methodFrom = i;
                if (head.group(2).split(",").length > 7) {
                    complain(i + 1, "more than seven parameters");
                }
            }
            if (line.matches("^ {4,8}\\}$") && methodFrom > 0) {
                if (i - methodFrom + 1 > 60) {
                    complain(methodFrom + 1, "a method of more than sixty lines");
                }
                methodFrom = 0;
            }
            if (Pattern.compile("\\bstatic\\b(?!.*\\(|.*\\bclass\\b|.*\\bfinal (int|long|boolean|char|String) )").matcher(line).find()) {
                complain(i + 1, "a static field that is no constant");
            }
        }
        if (classes > 12) {
            complain(1, "more than twelve classes");
        }
        System.out.println(wrong == 0 ? classes + " classes keep to the language" : wrong + " lines do not keep to the language");
        if (wrong != 0) {
            System.exit(1);
        }
    }
}
