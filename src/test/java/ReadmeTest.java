import java.lang.reflect.Method;
import java.lang.reflect.Modifier;
import java.nio.file.Files;
import java.nio.file.Path;
import java.util.ArrayList;
import java.util.HashSet;
import java.util.List;
import java.util.Set;
import java.util.regex.Matcher;
import java.util.regex.Pattern;
import javax.tools.JavaCompiler;
import javax.tools.ToolProvider;

/** The Java of README.md: compiled as it stands there and run; each call answers what the comment behind it says. */
public final class ReadmeTest {
    private static final Pattern CALL = Pattern.compile("(saw\\.(\\w+)\\([^;]*\\)); *// (-?\\d+|true|false|throws \\w+)(: .*)?");
    private static final Pattern OTHER = Pattern.compile("(SingingSaw saw = new SingingSaw\\(\\)|put\\(saw, .*\\));");

    private static final StringBuilder helpers = new StringBuilder();
    private static final StringBuilder lines = new StringBuilder();
    private static final Set<String> shown = new HashSet<>();
    private static int calls = 0;

    private ReadmeTest() {
    }

    public static void main(String[] args) throws Exception {
        for (String block : javaBlocks(Files.readString(Path.of("README.md")))) {
            if (block.startsWith("static ")) {
                helpers.append(block);
            } else {
                for (String line : block.split("\n")) {
                    readLine(line);
                }
            }
        }
        Path folder = Path.of(ReadmeTest.class.getProtectionDomain().getCodeSource().getLocation().toURI());
        Path source = folder.resolve("ReadmeRun.java");
        Files.writeString(source, "final class ReadmeRun {\n" + helpers + "static void play() {\n" + lines + "}\n}\n");
        JavaCompiler compiler = ToolProvider.getSystemJavaCompiler();
        int failed = compiler.run(null, null, null, "-cp", folder.toString(), "-d", folder.toString(), source.toString());
        Check.due("README.md's Java compiles (0: it does)", failed, 0);
        if (failed == 0) {
            Method play = Class.forName("ReadmeRun").getDeclaredMethod("play");
            play.setAccessible(true);
            play.invoke(null);
        }
        eachCallIsShown();
        Check.finish("ReadmeTest");
    }

    private static List<String> javaBlocks(String readme) {
        List<String> blocks = new ArrayList<>();
        for (String part : readme.split("```java\n", -1)) {
            blocks.add(part.split("```", -1)[0]);
        }
        blocks.remove(0);
        return blocks;
    }

    /** A call of the saw has an answer behind it; what is neither that nor a preparation is a fault of README.md. */
    private static void readLine(String line) {
        Matcher call = CALL.matcher(line);
        if (!call.matches()) {
            Check.due("README.md: '" + line + "' can be run", OTHER.matcher(line).matches(), true);
            lines.append(line).append('\n');
            return;
        }
        calls++;
        shown.add(call.group(2));
        String answer = call.group(3);
        String name = "\"README.md: " + call.group(1) + " (" + answer + ")\"";
        if (answer.startsWith("throws ")) {
            lines.append("{ boolean thrown = false; try { ").append(call.group(1)).append("; } catch (java.util.")
                .append(answer.substring(7)).append(" e) { thrown = true; } Check.due(").append(name).append(", thrown, true); }\n");
        } else {
            lines.append("Check.due(").append(name).append(", ").append(call.group(1)).append(", ").append(answer).append(");\n");
        }
    }

    private static void eachCallIsShown() {
        for (Method m : SingingSaw.class.getDeclaredMethods()) {
            if (Modifier.isPublic(m.getModifiers())) {
                Check.due("README.md shows " + m.getName(), shown.contains(m.getName()), true);
            }
        }
        Check.due("README.md shows many calls, for one object", calls > 60 && calls < 400, true);
    }
}
