import java.io.IOException;
import java.lang.reflect.Method;
import java.lang.reflect.Modifier;
import java.net.URL;
import java.net.URLClassLoader;
import java.nio.file.Files;
import java.nio.file.Path;
import java.util.ArrayList;
import java.util.List;
import java.util.regex.Matcher;
import java.util.regex.Pattern;
import javax.tools.ToolProvider;

/** What README.md says holds: its examples answer as their remarks say, its commands end well, every call is named. */
public final class ReadmeTest {
    private static final Pattern BLOCK = Pattern.compile("^```(java|sh)\n(.*?)^```$", Pattern.MULTILINE | Pattern.DOTALL);
    private static final Pattern ANSWERED = Pattern.compile("^(.*); +// (-?[0-9]+|true|false)\\b.*$");
    private static int asked = 0;
    private static int wrong = 0;

    /** What an example's answer is compared by; called from the compiled examples. */
    public static void due(String call, String due, Object got) {
        asked++;
        if (!due.equals(String.valueOf(got))) {
            complain(call + " answered " + got + ", README.md says " + due);
        }
    }

    private static void complain(String what) {
        wrong++;
        System.out.println(what);
    }

    public static void main(String[] args) throws Exception {
        String page = Files.readString(Path.of("README.md"));
        int examples = 0;
        int commands = 0;
        Matcher block = BLOCK.matcher(page);
        while (block.find()) {
            if (block.group(1).equals("java")) {
                examples++;
                runExample("Example" + examples, block.group(2));
            } else {
                commands++;
                runCommands(block.group(2));
            }
        }
        if (examples == 0 || commands == 0 || asked == 0) {
            complain("README.md has " + examples + " examples, " + commands + " blocks of commands");
        }
        for (Method method : ShadowPool.class.getDeclaredMethods()) {
            if (Modifier.isPublic(method.getModifiers()) && !page.contains("`" + method.getName() + "`")) {
                complain("README.md doesn't name " + method.getName());
            }
        }
        System.out.println(asked + " answers of README.md asked, " + wrong + " faults");
        if (wrong != 0) {
            System.exit(1);
        }
    }

    private static void runExample(String name, String lines) throws Exception {
        StringBuilder code = new StringBuilder("public final class " + name + " { public static void main(String[] args) {\n");
        for (String line : lines.split("\n")) {
            Matcher answered = ANSWERED.matcher(line);
            if (answered.matches()) {
                String call = answered.group(1);
                String quoted = call.replace("\\", "\\\\").replace("\"", "\\\"");
                code.append("ReadmeTest.due(\"").append(quoted).append("\", \"").append(answered.group(2)).append("\", ").append(call).append(");\n");
            } else {
                code.append(line).append('\n');
            }
        }
        Path dir = Files.createTempDirectory("readme");
        Path source = dir.resolve(name + ".java");
        Files.writeString(source, code.append("}}\n"));
        int ended = ToolProvider.getSystemJavaCompiler().run(null, System.out, System.out, "-cp", System.getProperty("java.class.path"),
                "-sourcepath", "src/test/java", "-d", dir.toString(), source.toString());
        if (ended != 0) {
            complain(name + " of README.md does not compile");
        } else {
            try (URLClassLoader loader = new URLClassLoader(new URL[] {dir.toUri().toURL()})) {
                loader.loadClass(name).getMethod("main", String[].class).invoke(null, (Object) new String[0]);
            }
        }
        remove(dir);
    }

    private static void runCommands(String lines) throws IOException, InterruptedException {
        Process process = new ProcessBuilder("bash", "-c", "set -e\n" + lines).redirectErrorStream(true).start();
        String said = new String(process.getInputStream().readAllBytes());
        if (process.waitFor() != 0) {
            complain("commands of README.md end with " + process.exitValue() + ":\n" + lines + said);
        }
    }

    private static void remove(Path dir) throws IOException {
        List<Path> all = new ArrayList<>();
        try (var walk = Files.walk(dir)) {
            walk.forEach(path -> all.add(0, path));
        }
        for (Path path : all) {
            Files.delete(path);
        }
    }
}
