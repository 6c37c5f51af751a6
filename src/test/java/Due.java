import java.nio.charset.StandardCharsets;
import java.util.Arrays;

/** What the tests share: texts are fed, answers are compared, and a wrong one ends the test with 1. */
final class Due {
    static final long NOTHING = -1234567890123L;
    private int wrong;
    private int looked;

    /** Looks at one answer. */
    void same(String what, long got, long want) {
        looked++;
        if (got != want) {
            wrong++;
            System.out.println(what + " answered " + got + ", due is " + want);
        }
    }

    void end() {
        System.out.println(looked + " answers, " + wrong + " of them not as due");
        if (wrong != 0 || looked == 0) {
            System.exit(1);
        }
    }

    /** Feeds just these bytes: what fills up the last twenty is cut again. */
    static void feed(PlainJava x, byte[] bytes) {
        byte[] b = Arrays.copyOf(bytes, (bytes.length + 19) / 20 * 20);
        for (int i = 0; i < b.length; i += 20) {
            x.feed(four(b, i), four(b, i + 4), four(b, i + 8), four(b, i + 12), four(b, i + 16));
        }
        x.cut(b.length - bytes.length);
    }

    static void feed(PlainJava x, String text) {
        feed(x, text.getBytes(StandardCharsets.ISO_8859_1));
    }

    private static int four(byte[] b, int i) {
        return b[i] << 24 | (b[i + 1] & 255) << 16 | (b[i + 2] & 255) << 8 | b[i + 3] & 255;
    }

    /** A new object that has read a text without a FAULT. */
    static PlainJava of(String text) {
        PlainJava x = new PlainJava();
        feed(x, text);
        if (x.read() < 0) {
            throw new IllegalStateException("FAULT at " + x.place() + ": " + text);
        }
        return x;
    }

    /** A text within the block of void m(). */
    static String m(String row) {
        return "void m() { " + row + " }";
    }

    /** The FAULT of a text, at the place where the mark stands in it; no mark: the end. */
    void fault(int fault, String marked) {
        PlainJava x = new PlainJava();
        feed(x, marked.replace("@", ""));
        same("read() of " + marked, x.read(), -10 - fault);
        int place = marked.indexOf('@');
        same("place() of " + marked, x.place(), place < 0 ? marked.length() : place);
    }

    void readable(String text, int methods) {
        PlainJava x = new PlainJava();
        feed(x, text);
        same("read() of " + text, x.read(), methods);
        same("place() of " + text, x.place(), PlainJava.NO);
    }

    /** The ERROR of a text, at the place where the mark stands in it. */
    void error(int error, String marked) {
        PlainJava x = of(marked.replace("@", ""));
        same("judge() of " + marked, x.judge(), error);
        same("place() of " + marked, x.place(), marked.indexOf('@'));
    }

    void fine(String text) {
        PlainJava x = of(text);
        same("judge() of " + text, x.judge(), 0);
        same("place() of " + text, x.place(), PlainJava.NO);
    }

    /** Which token begins at the n-th (from 0) place where a piece of text stands. */
    static int tokenAt(PlainJava x, String text, String piece, int n) {
        int place = -1;
        for (int i = 0; i <= n; i++) {
            place = text.indexOf(piece, place + 1);
        }
        for (int i = 0; i < x.told(0); i++) {
            if (x.token(i, 0) == place) {
                return i;
            }
        }
        throw new IllegalStateException("no token at " + piece + " of " + text);
    }

    /** Which token ends where a piece of text does, the n-th one. */
    static int tokenBehind(PlainJava x, String text, String piece, int n) {
        int place = -1;
        for (int i = 0; i <= n; i++) {
            place = text.indexOf(piece, place + 1);
        }
        for (int i = 0; i < x.told(0); i++) {
            if (x.token(i, 0) + x.token(i, 1) == place + piece.length()) {
                return i;
            }
        }
        throw new IllegalStateException("no token ends " + piece + " of " + text);
    }

    static String repeated(String piece, int times) {
        return piece.repeat(Math.max(0, times));
    }
}
