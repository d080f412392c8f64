import java.io.IOException;
import java.net.URL;
import java.net.URLClassLoader;
import java.nio.file.Files;
import java.nio.file.Path;
import java.util.Set;
import java.util.TreeSet;
import java.util.regex.Matcher;
import java.util.regex.Pattern;
import java.util.stream.Stream;
import javax.tools.ToolProvider;

/** README.md is right: its example answers as it says, it tells every call and every test. */
public final class ReadmeTest {
    private static final Due due = new Due("ReadmeTest");
    private static final Pattern TOLD = Pattern.compile("(?:int|long) (\\w+) = .*; +// (-?\\d+): .*");
    private static final Pattern CALL = Pattern.compile("    public \\w+ (\\w+)\\((.*)\\).*;");
    private static final Pattern TEST = Pattern.compile("(?m)^\\| `(\\w+Test)` \\|");

    public static void main(String[] args) throws IOException, ReflectiveOperationException {
        String readme = Files.readString(Path.of("README.md"));
        callsAreTold(readme);
        testsAreTold(readme);
        exampleHolds(readme.replaceAll("(?s).*```java\n(.*?)```.*", "$1"));
        due.end();
    }

    private static void callsAreTold(String readme) throws IOException {
        int calls = 0;
        for (String line : Files.readAllLines(Path.of("..", "shared", "DOC.md"))) {
            Matcher call = CALL.matcher(line);
            if (call.matches()) {
                calls++;
                String words = call.group(1) + "(" + call.group(2).replaceAll("int (\\w+)", "$1") + ")";
                due.is(words + " is told", readme.contains("`" + words + "`"), true);
            }
        }
        due.is("calls of the face", calls, 30);
    }

    private static void testsAreTold(String readme) throws IOException {
        Set<String> told = new TreeSet<>();
        Matcher test = TEST.matcher(readme);
        while (test.find()) {
            due.is(test.group(1) + " is told once", told.add(test.group(1)), true);
        }
        Set<String> there = new TreeSet<>();
        try (Stream<Path> files = Files.list(Path.of("src", "test", "java"))) {
            files.map(file -> file.getFileName().toString())
                .filter(name -> name.endsWith("Test.java"))
                .forEach(name -> there.add(name.replace(".java", "")));
        }
        due.is("tests that are there: " + there + ", told: " + told, there.equals(told), true);
    }

    /** Compiles the example as the body of a method that also hands out what it was told. */
    private static void exampleHolds(String example) throws IOException, ReflectiveOperationException {
        StringBuilder names = new StringBuilder();
        StringBuilder wanted = new StringBuilder();
        for (String line : example.split("\n")) {
            Matcher told = TOLD.matcher(line);
            if (told.matches()) {
                names.append(told.group(1)).append(", ");
                wanted.append(told.group(1)).append(' ').append(told.group(2)).append('\n');
            }
        }
        String source = "public final class ReadmeExample { public static long[] answers() {\n"
            + example + "return new long[] {" + names + "}; } }\n";
        compare(wanted.toString().split("\n"), answers(source));
    }

    private static void compare(String[] told, long[] got) {
        due.is("answers of the example", got.length, told.length);
        due.is("the example tells answers", got.length > 5, true);
        for (int i = 0; i < Math.min(told.length, got.length); i++) {
            String[] words = told[i].split(" ");
            due.is("example: " + words[0], got[i], Long.parseLong(words[1]));
        }
    }

    private static long[] answers(String source) throws IOException, ReflectiveOperationException {
        Path dir = Files.createTempDirectory("readme");
        Path file = Files.writeString(dir.resolve("ReadmeExample.java"), source);
        try {
            int failed = ToolProvider.getSystemJavaCompiler().run(null, null, null, "-cp",
                System.getProperty("java.class.path"), "-d", dir.toString(), file.toString());
            due.is("the example compiles", failed, 0);
            URL[] place = {dir.toUri().toURL()};
            try (URLClassLoader loader = new URLClassLoader(place)) {
                return (long[]) loader.loadClass("ReadmeExample").getMethod("answers").invoke(null);
            }
        } finally {
            Files.deleteIfExists(dir.resolve("ReadmeExample.class"));
            Files.delete(file);
            Files.delete(dir);
        }
    }
}
