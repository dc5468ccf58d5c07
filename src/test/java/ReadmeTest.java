import java.lang.reflect.Method;
import java.lang.reflect.Modifier;
import java.nio.file.Files;
import java.nio.file.Path;
import java.util.regex.Matcher;
import java.util.regex.Pattern;
import java.util.stream.Stream;

/** README.md: its example answers what it says, each call of the face has a row there, each test is named. */
public final class ReadmeTest {
    private static final Path README = Path.of("README.md"), TESTS = Path.of("src/test/java");
    private static final Pattern ANSWERED = Pattern.compile("(x\\..*\\));\\s*// -> (-?\\d+)(:.*)?");
    private static final int LEAST_ANSWERS = 15;
    private static int wrong = 0;

    private static void must(boolean holds, String what) {
        if (!holds) {
            wrong++;
            System.out.println("not so: " + what);
        }
    }

    /** The example as a program: a line that tells its answer becomes a question whether it is so. */
    private static String program(String example) {
        StringBuilder body = new StringBuilder();
        int asked = 0;
        for (String line : example.split("\n")) {
            Matcher m = ANSWERED.matcher(line.trim());
            if (m.matches()) {
                asked++;
                body.append("{ long got = ").append(m.group(1)).append("; if (got != ").append(m.group(2))
                    .append("L) { wrong++; System.out.println(\"README.md: line ").append(asked).append(" answered \" + got); } }\n");
            } else {
                must(!line.contains("->"), "the line \"" + line + "\" tells its answer as the others do");
                body.append(line).append('\n');
            }
        }
        must(asked >= LEAST_ANSWERS, "the example tells " + LEAST_ANSWERS + " answers: " + asked);
        return "public final class Example {\npublic static int play() {\nint wrong = 0;\n" + body + "return wrong;\n}\n}\n";
    }

    private static void example(String readme) throws Exception {
        Matcher block = Pattern.compile("(?s)```java\n(.*?)```").matcher(readme);
        must(block.find(), "an example stands in " + README);
        if (wrong != 0) return;
        Path directory = Files.createTempDirectory("readme");
        Path source = directory.resolve("Example.java"), compiled = directory.resolve("Example.class");
        try {
            Files.writeString(source, program(block.group(1)));
            String classes = System.getProperty("java.class.path");
            // the javac that .ci/run calls: the java that runs this may stand without a compiler of its own
            int refused = new ProcessBuilder("javac", "-cp", classes, "-d", directory.toString(), source.toString()).inheritIO().start().waitFor();
            must(refused == 0, "the example compiles");
            if (refused == 0) must(played(compiled) == 0, "the example answers what " + README + " says");
        } finally {
            Files.deleteIfExists(compiled);
            Files.deleteIfExists(source);
            Files.delete(directory);
        }
    }

    private static int played(Path compiled) throws Exception {
        byte[] bytes = Files.readAllBytes(compiled);
        ClassLoader loader = new ClassLoader(ReadmeTest.class.getClassLoader()) {
            @Override
            protected Class<?> findClass(String name) {
                return defineClass(name, bytes, 0, bytes.length);
            }
        };
        return (Integer) loader.loadClass("Example").getMethod("play").invoke(null);
    }

    private static void calls(String readme) {
        for (Method m : SkipOfEightYards.class.getDeclaredMethods()) {
            if (!Modifier.isPublic(m.getModifiers())) continue;
            int many = m.getParameterCount();
            String parameters = many == 0 ? "" : "\\w+" + "(, \\w+)".repeat(many - 1);
            Pattern row = Pattern.compile("(?m)^\\| (`\\w+\\(\\)`, )?`" + m.getName() + "\\(" + parameters + "\\)`[^|]*\\| .* \\|$");
            must(row.matcher(readme).find(), m.getName() + " has a row with its " + many + " arguments");
        }
    }

    private static void tests(String readme) throws Exception {
        must(readme.contains("\n.ci/run\n"), "how to run the tests stands in " + README);
        try (Stream<Path> files = Files.list(TESTS)) {
            files.forEach(file -> {
                String name = file.getFileName().toString().replace(".java", "");
                must(readme.contains("`" + name + "`"), "the test " + name + " is named");
            });
        }
    }

    public static void main(String[] args) throws Exception {
        String readme = Files.readString(README);
        example(readme);
        calls(readme);
        tests(readme);
        System.out.println("README.md: " + wrong + " not so");
        if (wrong != 0) System.exit(1);
    }
}
