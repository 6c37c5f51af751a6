import java.io.IOException;
import java.lang.reflect.Method;
import java.nio.file.DirectoryStream;
import java.nio.file.Files;
import java.nio.file.Path;
import java.util.TreeSet;
import java.util.regex.Matcher;
import java.util.regex.Pattern;

/** What README.md says is what the class and .ci/run do: its example is run, its table of tests is the tests that there are. */
final class ReadmeTest {
    private static final Pattern FED = Pattern.compile("feed\\(x, \"([^\"]*)\"\\);");
    private static final Pattern CALLED = Pattern.compile("x\\.(\\w+)\\(([-0-9, ]*)\\); +// (-?\\d+)\\b.*");
    private static final Pattern LISTED = Pattern.compile("\\| `(\\w+)` \\|.*");

    public static void main(String[] args) throws IOException, ReflectiveOperationException {
        Due due = new Due();
        String readme = Files.readString(Path.of("README.md"));
        example(due, readme);
        feeding(due, readme);
        tests(due, readme);
        due.end();
    }

    /** Every line of the example is made, and what stands behind it is the answer; every call of the face is among them. */
    private static void example(Due due, String readme) throws ReflectiveOperationException {
        PlainJava x = new PlainJava();
        TreeSet<String> called = new TreeSet<>();
        String from = "PlainJava x = new PlainJava();\n";
        int begin = readme.indexOf(from) + from.length();
        for (String line : readme.substring(begin, readme.indexOf("```", begin)).split("\n")) {
            Matcher fed = FED.matcher(line);
            Matcher call = CALLED.matcher(line);
            if (fed.matches()) {
                Due.feed(x, fed.group(1));
            } else if (call.matches()) {
                due.same("README.md: " + line, answer(x, call.group(1), call.group(2)), Long.parseLong(call.group(3)));
                called.add(call.group(1));
            } else {
                due.same("README.md, a line that is no call: " + line, line.isBlank() ? 1 : 0, 1);
            }
        }
        // feed and cut are in the way how a text is fed
        due.same("README.md's calls: " + called, called.size(), 17);
    }

    private static long answer(PlainJava x, String name, String arguments) throws ReflectiveOperationException {
        String[] texts = arguments.isBlank() ? new String[0] : arguments.split(", ");
        for (Method m : PlainJava.class.getMethods()) {
            if (m.getName().equals(name) && m.getParameterCount() == texts.length) {
                Object[] given = new Object[texts.length];
                for (int i = 0; i < given.length; i++) {
                    // no ?: here: it would make a Long of both
                    if (m.getParameterTypes()[i] == long.class) {
                        given[i] = Long.valueOf(texts[i]);
                    } else {
                        given[i] = Integer.valueOf(texts[i]);
                    }
                }
                return ((Number) m.invoke(x, given)).longValue();
            }
        }
        throw new IllegalStateException("there is no " + name + "(" + arguments + ")");
    }

    /** README.md feeds as the tests do, who would fail if it were wrong. */
    private static void feeding(Due due, String readme) throws IOException {
        int begin = readme.indexOf("static void feed(");
        String shared = plain(Files.readString(Path.of("src/test/java/Due.java")));
        for (String method : readme.substring(begin, readme.indexOf("```", begin)).split("\n\n")) {
            due.same("README.md's " + method, shared.contains(plain(method)) ? 1 : 0, 1);
        }
    }

    private static String plain(String code) {
        return code.replaceAll("\\s+", " ").strip();
    }

    private static void tests(Due due, String readme) throws IOException {
        TreeSet<String> listed = new TreeSet<>();
        for (String line : readme.substring(readme.indexOf("## Tests")).split("\n")) {
            Matcher m = LISTED.matcher(line);
            if (m.matches()) {
                listed.add(m.group(1));
            }
        }
        TreeSet<String> there = new TreeSet<>();
        try (DirectoryStream<Path> files = Files.newDirectoryStream(Path.of("src/test/java"), "*Test.java")) {
            for (Path file : files) {
                there.add(file.getFileName().toString().replace(".java", ""));
            }
        }
        due.same("README.md's tests " + listed + " are those of src/test/java " + there, listed.equals(there) ? 1 : 0, 1);
        due.same(".ci/run can be run", Files.isExecutable(Path.of(".ci/run")) ? 1 : 0, 1);
    }
}
