import java.nio.charset.StandardCharsets;
import java.util.ArrayList;
import java.util.Arrays;
import java.util.List;
import java.util.regex.Matcher;
import java.util.regex.Pattern;

/** What the tests share: texts are fed, answers are compared, and a wrong one ends the test with 1. */
final class Due {
    static final long NOTHING = -1234567890123L;
    private static final Pattern TOKEN = Pattern.compile(
        "//[^\\n]*|[A-Za-z][A-Za-z0-9]*|[0-9]+L?|'.'|>>>=|<<=|>>=|>>>|<<|>>|&&|\\|\\||\\+\\+|--|[-+*/%&|^=!<>]=|[\\s\\S]");
    static final String[] TYPES = {"boolean", "byte", "char", "int", "long"};
    private int wrong;
    private int looked;

    /** Looks at one answer. */
    void same(String what, long got, long want) {
        looked++;
        if (got != want) {
            wrong++;
            System.out.println(what + " answered " + got + ", due is " + want);
        }
    }

    void end() {
        System.out.println(looked + " answers, " + wrong + " of them not as due");
        if (wrong != 0 || looked == 0) {
            System.exit(1);
        }
    }

    /** Feeds just these bytes: what fills up the last twenty is cut again. */
    static void feed(PlainJava x, byte[] bytes) {
        byte[] b = Arrays.copyOf(bytes, (bytes.length + 19) / 20 * 20);
        for (int i = 0; i < b.length; i += 20) {
            x.feed(four(b, i), four(b, i + 4), four(b, i + 8), four(b, i + 12), four(b, i + 16));
        }
        x.cut(b.length - bytes.length);
    }

    static void feed(PlainJava x, String text) {
        feed(x, text.getBytes(StandardCharsets.ISO_8859_1));
    }

    private static int four(byte[] b, int i) {
        return b[i] << 24 | (b[i + 1] & 255) << 16 | (b[i + 2] & 255) << 8 | b[i + 3] & 255;
    }

    /** A new object that has read a text without a FAULT. */
    static PlainJava of(String text) {
        PlainJava x = new PlainJava();
        feed(x, text);
        if (x.read() < 0) {
            throw new IllegalStateException("FAULT at " + x.place() + ": " + text);
        }
        return x;
    }

    /** A text within the block of void m(). */
    static String m(String row) {
        return "void m() { " + row + " }";
    }

    /** The FAULT of a text, at the place where the mark stands in it; no mark: the end. */
    void fault(int fault, String marked) {
        PlainJava x = new PlainJava();
        feed(x, marked.replace("@", ""));
        same("read() of " + marked, x.read(), -10 - fault);
        int place = marked.indexOf('@');
        same("place() of " + marked, x.place(), place < 0 ? marked.length() : place);
    }

    void readable(String text, int methods) {
        PlainJava x = new PlainJava();
        feed(x, text);
        same("read() of " + text, x.read(), methods);
        same("place() of " + text, x.place(), PlainJava.NO);
    }

    /** The ERROR of a text, at the place where the mark stands in it. */
    void error(int error, String marked) {
        PlainJava x = of(marked.replace("@", ""));
        same("judge() of " + marked, x.judge(), error);
        same("place() of " + marked, x.place(), marked.indexOf('@'));
    }

    void fine(String text) {
        PlainJava x = of(text);
        same("judge() of " + text, x.judge(), 0);
        same("place() of " + text, x.place(), PlainJava.NO);
    }

    /**
     * The tokens of a text that has no FAULT 1: of each its place and the place behind it. The tests
     * cut texts themselves, so that looking for a token costs an object none of its 512 calls.
     */
    static List<int[]> tokens(String text) {
        List<int[]> found = new ArrayList<>();
        Matcher m = TOKEN.matcher(text);
        while (m.find()) {
            if (!m.group().startsWith("//") && !m.group().isBlank()) {
                found.add(new int[] {m.start(), m.end()});
            }
        }
        return found;
    }

    private static int placeOf(String text, String piece, int n) {
        int place = -1;
        for (int i = 0; i <= n; i++) {
            place = text.indexOf(piece, place + 1);
            if (place < 0) {
                throw new IllegalStateException("there is no " + piece + " in " + text);
            }
        }
        return place;
    }

    private static int tokenWith(String text, int which, int place) {
        List<int[]> all = tokens(text);
        for (int i = 0; i < all.size(); i++) {
            if (all.get(i)[which] == place) {
                return i;
            }
        }
        throw new IllegalStateException("no token begins or ends at " + place + " of " + text);
    }

    /** Which token begins at the n-th (from 0) place where a piece of text stands. */
    static int tokenAt(String text, String piece, int n) {
        return tokenWith(text, 0, placeOf(text, piece, n));
    }

    /** Which token ends where a piece of text does, the n-th one. */
    static int tokenBehind(String text, String piece, int n) {
        return tokenWith(text, 1, placeOf(text, piece, n) + piece.length());
    }

    /** What Java itself makes of two ints or two longs; null: / or % by 0. */
    static Long worked(String sign, boolean isLong, long a, long b) {
        int i = (int) a;
        int k = (int) b;
        switch (sign) {
            case "+": return isLong ? a + b : i + k;
            case "-": return isLong ? a - b : i - k;
            case "*": return isLong ? a * b : i * k;
            case "/": return b == 0 ? null : (Long) (isLong ? a / b : i / k);
            case "%": return b == 0 ? null : (Long) (isLong ? a % b : i % k);
            case "<<": return isLong ? a << b : i << b;
            case ">>": return isLong ? a >> b : i >> b;
            case ">>>": return isLong ? a >>> b : i >>> b;
            case "&": return a & b;
            case "|": return a | b;
            case "^": return a ^ b;
            case "<": return a < b ? 1L : 0L;
            case "<=": return a <= b ? 1L : 0L;
            case ">": return a > b ? 1L : 0L;
            case ">=": return a >= b ? 1L : 0L;
            case "==": return a == b ? 1L : 0L;
            case "!=": return a != b ? 1L : 0L;
            default: throw new IllegalStateException(sign);
        }
    }

    /** A value as a text has it, in ( ) if it is below 0. */
    static String literal(boolean isLong, long v) {
        String text = v + (isLong ? "L" : "");
        return v < 0 ? "(" + text + ")" : text;
    }

    /** Whether a value of one TYPE is one of the other without a cast: the same, or it WIDENS. */
    static boolean widens(int from, int to) {
        return from == to || from >= 1 && from <= 3 && to == 4 || (from == 1 || from == 2) && to == 3;
    }

    static String repeated(String piece, int times) {
        return piece.repeat(Math.max(0, times));
    }
}
