import java.io.IOException;
import java.lang.reflect.Field;
import java.lang.reflect.Method;
import java.lang.reflect.Modifier;
import java.nio.file.Files;
import java.nio.file.Path;
import java.util.ArrayList;
import java.util.Arrays;
import java.util.List;
import java.util.TreeSet;
import java.util.regex.Matcher;
import java.util.regex.Pattern;

/** Those rules of LANGUAGE.md that can be looked at from outside: what the class's text and its members may have. */
final class LanguageTest {
    private static final String SOURCE = "src/main/java/PlainJava.java";
    // remarks, texts and characters are no code
    private static final Pattern NO_CODE = Pattern.compile("//[^\\n]*|/\\*[\\s\\S]*?\\*/|\"(?:[^\"\\\\]|\\\\.)*\"|'(?:[^'\\\\]|\\\\.)'");
    private static final String[] REFUSED = {"throw", "throws", "try", "catch", "finally", "synchronized", "assert", "protected", "package", "Object", "Thread", "Random",
        "hashCode", "File", "native", "volatile"};

    public static void main(String[] args) throws IOException {
        Due due = new Due();
        String text = Files.readString(Path.of(SOURCE));
        String code = NO_CODE.matcher(text).replaceAll("0");
        words(due, code);
        library(due, code);
        methodLengths(due, text);
        List<Class<?>> all = new ArrayList<>(Arrays.asList(PlainJava.class.getDeclaredClasses()));
        all.add(PlainJava.class);
        due.same("some twelve classes", all.size() <= 12 ? 1 : 0, 1);
        for (Class<?> c : all) {
            members(due, c);
        }
        due.end();
    }

    /** Rules 2, 6, 13. */
    private static void words(Due due, String code) {
        for (String word : REFUSED) {
            due.same("'" + word + "' in " + SOURCE, Pattern.compile("\\b" + word + "\\b").matcher(code).find() ? 1 : 0, 0);
        }
        for (String sign : new String[] {"->", "::", "static {", "Exact("}) {
            due.same("'" + sign + "' in " + SOURCE, code.contains(sign) ? 1 : 0, 0);
        }
    }

    /** Rule 4: what is imported, and what is called of a class with a great letter or of a list or text. */
    private static void library(Due due, String code) {
        TreeSet<String> imports = found("import ([\\w.]+);", code);
        due.same("imports " + imports, imports.equals(new TreeSet<>(List.of("java.util.ArrayList"))) ? 1 : 0, 1);
        TreeSet<String> statics = found("\\b((?:Math|Integer|Long|Arrays|String|List|Character)\\.\\w+)\\(", code);
        due.same("static calls " + statics, statics.equals(new TreeSet<>(List.of("Math.min"))) ? 1 : 0, 1);
        TreeSet<String> ofLists = found("\\b(?:methods|variables|exps|statements)\\.(\\w+)\\(", code);
        ofLists.removeAll(List.of("add", "get", "size", "clear"));
        due.same("calls of lists " + ofLists, ofLists.size(), 0);
        TreeSet<String> ofTexts = found("\\b(?:WORDS|SIGNS)\\.(\\w+)\\(", code);
        ofTexts.removeAll(List.of("length", "charAt"));
        due.same("calls of texts " + ofTexts, ofTexts.size(), 0);
    }

    private static TreeSet<String> found(String pattern, String code) {
        TreeSet<String> all = new TreeSet<>();
        Matcher m = Pattern.compile(pattern).matcher(code);
        while (m.find()) {
            all.add(m.group(1));
        }
        return all;
    }

    /** Rule 11: a method begins with its { at the end of a line and ends with a } as far from the left. */
    private static void methodLengths(Due due, String text) {
        String[] lines = text.split("\n");
        int methods = 0;
        for (int i = 0; i < lines.length; i++) {
            if (lines[i].matches(" +[\\w\\[\\]<> ]+\\(.*\\) \\{") && !lines[i].matches(" +(if|for|while|switch|else|do|return)\\b.*")) {
                String end = lines[i].replaceAll("\\S.*", "") + "}";
                int k = i;
                while (k < lines.length && !lines[k].equals(end)) {
                    k++;
                }
                methods++;
                due.same(lines[i].strip() + " is short", k - i < 60 ? 1 : 0, 1);
            }
        }
        due.same("methods are looked at", methods > 100 ? 1 : 0, 1);
    }

    /** Rules 1, 2, 3, 5, 11. */
    private static void members(Due due, Class<?> c) {
        int fields = 0;
        for (Field f : c.getDeclaredFields()) {
            boolean isStatic = Modifier.isStatic(f.getModifiers());
            fields += isStatic ? 0 : 1;
            due.same(f + " is final if static", !isStatic || Modifier.isFinal(f.getModifiers()) ? 1 : 0, 1);
            boolean isConstant = f.getType().isPrimitive() || f.getType() == String.class || f.getType() == int[].class;
            due.same(f + " has a constant's type if static", !isStatic || isConstant ? 1 : 0, 1);
        }
        due.same(c + " has some twenty fields, " + fields, fields <= 21 ? 1 : 0, 1);
        for (Method m : c.getDeclaredMethods()) {
            due.same(m + " has at most seven params", m.getParameterCount() <= 7 ? 1 : 0, 1);
        }
        boolean isInside = c != PlainJava.class;
        due.same(c + " is static", !isInside || Modifier.isStatic(c.getModifiers()) ? 1 : 0, 1);
        due.same(c + " has no classes of its own inside", isInside ? c.getDeclaredClasses().length : 0, 0);
    }
}
