import java.io.IOException;
import java.net.URL;
import java.net.URLClassLoader;
import java.nio.file.Files;
import java.nio.file.Path;
import java.util.regex.Matcher;
import java.util.regex.Pattern;

/** The examples in README.md are compiled and done, and each call answers what is said behind it. */
public final class ReadmeTest {
    private static final Pattern BLOCK = Pattern.compile("(?s)```java\n(.*?)```");
    private static final Pattern CALL = Pattern.compile("(rows\\.\\w+\\(.*\\)); +// (-?\\d+|[A-Z_]+)(:.*)?");

    private static int wrong = 0;
    private static int asked = 0;

    /** Called by the examples. */
    public static void due(String call, int got, int want) {
        asked++;
        if (got != want) {
            wrong++;
            System.out.println("README.md: " + call + " answered " + got + ", due is " + want);
        }
    }

    private static void require(boolean holds, String otherwise) {
        if (!holds) {
            wrong++;
            System.out.println("README.md: " + otherwise);
        }
    }

    private static String asCode(String line) {
        Matcher call = CALL.matcher(line);
        if (!call.matches()) {
            require(!line.startsWith("rows."), "no answer is told in the line: " + line);
            return line + "\n";
        }
        String answer = call.group(2);
        String want = Character.isUpperCase(answer.charAt(0)) ? "EchoMargins." + answer : answer;
        return "ReadmeTest.due(\"" + call.group(1) + "\", " + call.group(1) + ", " + want + ");\n";
    }

    private static String programOf(String readme) {
        StringBuilder program = new StringBuilder("public final class Examples {\n public static void main(String[] none) {\n");
        Matcher block = BLOCK.matcher(readme);
        while (block.find()) {
            program.append("{\n");
            block.group(1).lines().forEach(line -> program.append(asCode(line)));
            program.append("}\n");
        }
        return program.append("}\n}\n").toString();
    }

    private static void runProgram(String program, Path place) throws Exception {
        Path file = place.resolve("Examples.java");
        Files.writeString(file, program);
        int failed = new ProcessBuilder("javac", "-encoding", "UTF-8", "-proc:none", "-cp",
            System.getProperty("java.class.path"), "-d", place.toString(), file.toString()).inheritIO().start().waitFor();
        require(failed == 0, "the examples can't be compiled");
        if (failed != 0) {
            return;
        }
        try (URLClassLoader loader = new URLClassLoader(new URL[] {place.toUri().toURL()})) {
            loader.loadClass("Examples").getMethod("main", String[].class).invoke(null, (Object) new String[0]);
        }
    }

    private static void remove(Path place) throws IOException {
        for (String name : new String[] {"Examples.java", "Examples.class"}) {
            Files.deleteIfExists(place.resolve(name));
        }
        Files.delete(place);
    }

    public static void main(String[] args) throws Exception {
        Path place = Files.createTempDirectory("examples");
        try {
            runProgram(programOf(Files.readString(Path.of("README.md"))), place);
        } finally {
            remove(place);
        }
        System.out.println(wrong == 0 ? asked + " answers are as README.md says" : wrong + " answers are not as due");
        if (wrong != 0 || asked == 0) {
            System.exit(1);
        }
    }
}
