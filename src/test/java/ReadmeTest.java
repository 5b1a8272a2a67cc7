import java.lang.reflect.Method;
import java.lang.reflect.Modifier;
import java.net.URL;
import java.net.URLClassLoader;
import java.nio.file.Files;
import java.nio.file.Path;
import java.util.List;
import java.util.regex.Matcher;
import java.util.regex.Pattern;
import javax.tools.JavaCompiler;
import javax.tools.ToolProvider;

/** README.md's example compiles and answers what its comments tell, and its table has every call of the face. */
public final class ReadmeTest {
    private static final Pattern EXAMPLE = Pattern.compile("```java\n(.*?)```", Pattern.DOTALL);
    private static final Pattern LINE = Pattern.compile("(?:int (\\w+) = )?(parlour\\.[^;]+); +// (-?\\d+|true|false): .+");
    private static final int FEWEST_ANSWERS = 15;

    private static int wrong = 0;

    private static void bad(String what) {
        wrong++;
        System.out.println(what);
    }

    /** The example with each answer that is told turned into a call of due(). */
    private static String program(String example) {
        StringBuilder b = new StringBuilder("public final class Example {\n  public static void main(String[] args) {\n");
        int answers = 0;
        for (String line : example.split("\n")) {
            Matcher m = LINE.matcher(line);
            if (!m.matches()) {
                b.append(line).append('\n');
                continue;
            }
            answers++;
            String asked = m.group(2);
            if (m.group(1) != null) {
                b.append("int ").append(m.group(1)).append(" = ").append(asked).append(";\n");
                asked = m.group(1);
            }
            b.append("ReadmeTest.due(\"").append(m.group(2)).append("\", String.valueOf(").append(asked)
                .append("), \"").append(m.group(3)).append("\");\n");
        }
        if (answers < FEWEST_ANSWERS) {
            bad("the example tells " + answers + " answers only");
        }
        return b.append("  }\n}\n").toString();
    }

    public static void due(String call, String got, String want) {
        if (!got.equals(want)) {
            bad("README.md: " + call + " answered " + got + ", told is " + want);
        }
    }

    private static void runExample(String readme) throws Exception {
        Matcher m = EXAMPLE.matcher(readme);
        if (!m.find()) {
            bad("README.md has no example");
            return;
        }
        Path dir = Files.createTempDirectory("readme");
        Path file = dir.resolve("Example.java");
        Files.writeString(file, program(m.group(1)));
        JavaCompiler compiler = ToolProvider.getSystemJavaCompiler();
        String path = System.getProperty("java.class.path");
        if (compiler.run(null, null, null, "-cp", path, "-d", dir.toString(), file.toString()) != 0) {
            bad("README.md's example does not compile");
        } else {
            try (URLClassLoader loader = new URLClassLoader(new URL[] {dir.toUri().toURL()})) {
                loader.loadClass("Example").getMethod("main", String[].class).invoke(null, (Object) new String[0]);
            }
        }
        for (Path left : List.of(dir.resolve("Example.class"), file, dir)) {
            Files.deleteIfExists(left);
        }
    }

    private static void tellsEveryCall(String readme) {
        for (Method m : DominoParlour.class.getDeclaredMethods()) {
            boolean open = Modifier.isPublic(m.getModifiers());
            if (open && !readme.contains("\n| `" + m.getName() + "(")) {
                bad("README.md does not tell of " + m.getName());
            }
        }
        if (!readme.contains("\n| `new DominoParlour(")) {
            bad("README.md does not tell of the constructor");
        }
        if (!readme.contains("\n.ci/run\n")) {
            bad("README.md does not tell how to run the tests");
        }
    }

    public static void main(String[] args) throws Exception {
        String readme = Files.readString(Path.of("README.md"));
        runExample(readme);
        tellsEveryCall(readme);
        System.out.println(wrong == 0 ? "readme: as it tells" : "readme: " + wrong + " faults");
        if (wrong != 0) {
            System.exit(1);
        }
    }
}
