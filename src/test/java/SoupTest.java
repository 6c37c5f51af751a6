import java.util.Random;

/**
 * Calls in any order with any arguments, on texts of any tokens: none may throw, every answer is one
 * that the document knows, and the same calls give the same answers again.
 */
final class SoupTest {
    private static final String[] PIECES = {
        "void m() { ", "int f(int a) { ", "boolean g(final byte b, long c) { ", "}", "} ", "{", "(", ")", ";", ",", ":", "?", "=", "+=", ">>>=", "||", "&&",
        "|", "==", "<", "<<", "+", "-", "*", "/", "%", "!", "~", "++", "--", "a", "b", "x", "out(1);", "in()", "f(a)", "1", "0", "2147483648", "9L", "'c'", "true",
        "false", "int x = 1;", "final byte y = 2;", "long z;", "if (true)", "else", "while (in() > 1)", "while (true)", "do", "for (;;)", "for (int i = 0; i < 3; i++)",
        "switch (in())", "case 1:", "default:", "break;", "continue;", "break l;", "l:", "return;", "return 1;", "throw 1;", "try {", "} catch (e) {", "} finally {",
        "x = 1;", "x++;", "x += 2;", "//", "\n", "#", "'", "abcdefghijk"};

    public static void main(String[] args) {
        Due due = new Due();
        for (int seed = 0; seed < 600; seed++) {
            long first = calls(new Random(seed), due);
            due.same("the same calls again, seed " + seed, calls(new Random(seed), due), first);
        }
        deepest(due);
        due.end();
    }

    private static long calls(Random r, Due due) {
        PlainJava x = new PlainJava();
        long sum = 0;
        // an object is used for at most 512 calls, and a text takes up to thirty of them
        int[] made = {0};
        while (made[0] < 480) {
            made[0]++;
            sum = sum * 31 + call(x, r, made);
        }
        return sum;
    }

    private static int any(Random r) {
        int[] odd = {Integer.MIN_VALUE, Integer.MAX_VALUE, -1, 0, 1, 10, 20000, 20001, 40, 59, 60, 209, 210, 500};
        return r.nextInt(5) == 0 ? odd[r.nextInt(odd.length)] : r.nextInt(40) - 1;
    }

    private static long call(PlainJava x, Random r, int[] made) {
        switch (r.nextInt(24)) {
            case 0: return x.feed(r.nextInt(), r.nextInt(), any(r), any(r), any(r));
            case 1: return x.cut(any(r));
            case 2: case 3: case 4:
                StringBuilder text = new StringBuilder(r.nextInt(3) == 0 ? "void m() { int x = 3; " : "");
                for (int i = r.nextInt(60); i > 0; i--) {
                    text.append(PIECES[r.nextInt(PIECES.length)]).append(' ');
                }
                x.cut(x.cut(0));
                Due.feed(x, text.toString());
                made[0] += 3 + (text.length() + 19) / 20;
                return x.read();
            case 5: return x.read();
            case 6: return x.place();
            case 7: return x.judge();
            case 8: return x.told(any(r));
            case 9: return x.token(any(r), any(r));
            case 10: return x.method(any(r), any(r));
            case 11: return x.variable(any(r), any(r));
            case 12: return x.means(any(r));
            case 13: return x.type(any(r), any(r));
            case 14: return x.constant(any(r), any(r));
            case 15: return x.ends(any(r));
            case 16: return x.assigned(any(r), any(r));
            case 17: return x.argument(any(r), r.nextLong());
            case 18: return x.input(any(r));
            case 19: return x.drain();
            case 20: case 21: return x.run(0, 1 + r.nextInt(400));
            case 22: return x.run(any(r), any(r));
            default: return x.ran(any(r));
        }
    }

    /** As much within one another as can be, in each way that a text can be built. */
    private static void deepest(Due due) {
        String[][] pairs = {{"{ ", " }"}, {"if (in() > 1) ", ""}, {"try { ", " } finally { }"}, {"try { } finally { ", " }"}, {"try { } catch (e) { e = 1; } finally { ", " }"},
            {"do ", " while (in() > 1);"}, {"for (int i = 0; i < 1; i++) ", ""}, {"switch (in()) { case 0: ", " }"}};
        for (String[] pair : pairs) {
            boolean nests = pair[0].contains("int i");
            String text = Due.m(nests ? pair[0] + "out(1);" : Due.repeated(pair[0], 18) + "out(1);" + Due.repeated(pair[1], 18));
            PlainJava x = Due.of(text);
            due.same("judge() of " + text, x.judge(), 0);
            int outcome = x.run(0, 20000);
            due.same("run of " + text, outcome, 0);
            due.same("out of " + text, x.ran(2), text.contains("if (") ? 0 : 1);
        }
    }
}
