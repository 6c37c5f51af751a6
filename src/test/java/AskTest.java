/** Promises 7 to 15: what is told of tokens, methods, variables, meanings, TYPES, CONSTANTS, S's. */
final class AskTest {
    public static void main(String[] args) {
        Due due = new Due();
        tokens(due);
        methodsAndVariables(due);
        meanings(due);
        types(due);
        choices(due);
        constants(due);
        ends(due);
        assigned(due);
        withAnError(due);
        due.end();
    }

    private static void tokens(Due due) {
        String text = "void m()//\n{out( 12L ,'a')>>>= while9 while;}";
        PlainJava x = new PlainJava();
        Due.feed(x, text);
        due.same("read() with a FAULT", x.read(), -12);
        text = "int m()//\n{ while (a >>>= 12L + 'a' == true) ; }";
        x = Due.of(text);
        String[] cut = {"int", "m", "(", ")", "{", "while", "(", "a", ">>>=", "12L", "+", "'a'", "==", "true", ")", ";", "}"};
        int[] sorts = {4, 1, 5, 5, 5, 4, 5, 1, 5, 2, 5, 3, 5, 4, 5, 5, 5};
        due.same("told(0)", x.told(0), cut.length);
        int place = 0;
        for (int i = 0; i < cut.length; i++) {
            place = i == 4 ? 10 : text.indexOf(cut[i], place);
            due.same("token(" + i + ", 0)", x.token(i, 0), place);
            due.same("token(" + i + ", 1)", x.token(i, 1), cut[i].length());
            due.same("token(" + i + ", 2)", x.token(i, 2), sorts[i]);
            place += cut[i].length();
        }
        due.same("token(-1, 0)", x.token(-1, 0), PlainJava.BAD);
        due.same("token(17, 0)", x.token(17, 0), PlainJava.BAD);
        due.same("token(0, 3)", x.token(0, 3), PlainJava.BAD);
        due.same("token(0, -1)", x.token(0, -1), PlainJava.BAD);
    }

    private static void methodsAndVariables(Due due) {
        PlainJava x = Due.of("boolean a(final byte p, char q, long r) { return true; } "
            + "void b() { int x; try { final boolean y = true; } catch (e) { for (byte z = 1; ; ) ; } }");
        due.same("told(1)", x.told(1), 2);
        due.same("told(2)", x.told(2), 7);
        int[] first = {1, 0, 3};
        int[] second = {19, 5, 0};
        for (int what = 0; what < 3; what++) {
            due.same("method(0, " + what + ")", x.method(0, what), first[what]);
            due.same("method(1, " + what + ")", x.method(1, what), second[what]);
        }
        due.same("method(0, 10)", x.method(0, 10), 1);
        due.same("method(0, 11)", x.method(0, 11), 2);
        due.same("method(0, 12)", x.method(0, 12), 4);
        due.same("method(0, 13)", x.method(0, 13), PlainJava.BAD);
        due.same("method(1, 10)", x.method(1, 10), PlainJava.BAD);
        due.same("method(0, 3)", x.method(0, 3), PlainJava.BAD);
        due.same("method(0, 9)", x.method(0, 9), PlainJava.BAD);
        due.same("method(0, -1)", x.method(0, -1), PlainJava.BAD);
        due.same("method(0, the greatest)", x.method(0, Integer.MAX_VALUE), PlainJava.BAD);
        due.same("method(2, 0)", x.method(2, 0), PlainJava.BAD);
        due.same("method(-1, 0)", x.method(-1, 0), PlainJava.BAD);
        due.same("method(10, 0): out has no text", x.method(10, 0), PlainJava.BAD);
        int[][] variables = {{5, 1, 1, 0}, {8, 2, 0, 0}, {11, 4, 0, 0}, {24, 3, 0, 1}, {30, 0, 1, 1}, {37, 3, 0, 1}, {43, 1, 0, 1}};
        for (int k = 0; k < variables.length; k++) {
            for (int what = 0; what < 4; what++) {
                due.same("variable(" + k + ", " + what + ")", x.variable(k, what), variables[k][what]);
            }
        }
        due.same("variable(0, 4)", x.variable(0, 4), PlainJava.BAD);
        due.same("variable(0, -1)", x.variable(0, -1), PlainJava.BAD);
        due.same("variable(7, 0)", x.variable(7, 0), PlainJava.BAD);
        due.same("variable(-1, 0)", x.variable(-1, 0), PlainJava.BAD);
    }

    private static void meanings(Due due) {
        String text = "int f(int a) { { int b = a; } long b = a; l: while (b > 1) { b -= 1; if (in() > 2) continue l; break l; } "
            + "try { f(f(a)); f(b); } catch (c) { out(c); b = c++; } return a; } void f(long a) { f(a, 1); } void f(long f, int g) { }";
        PlainJava x = Due.of(text);
        due.same("judge()", x.judge(), 0);
        Object[][] asked = {
            {"f", 0, 100}, {"a)", 0, 0}, {"b = a;", 0, 1}, {"a; }", 0, 0}, {"b = a; l", 0, 2}, {"a; l", 0, 0}, {"l: ", 0, 200},
            {"b > 1", 0, 2}, {"b -= 1", 0, 2}, {"in()", 0, 111}, {"l; b", 0, 200}, {"l; }", 0, 200}, {"f(f(a))", 0, 100},
            {"f(a));", 0, 100}, {"a));", 0, 0}, {"f(b)", 0, 101}, {"c) {", 0, 3}, {"out(c)", 0, 110}, {"c); b", 0, 3}, {"b = c", 0, 2},
            {"c++", 0, 3}, {"f(long a)", 0, 101}, {"f(a, 1)", 0, 102}, {"a, 1", 0, 4}, {"f, int", 0, 5}, {"g) {", 0, 6}};
        for (Object[] ask : asked) {
            int token = Due.tokenAt(text, (String) ask[0], (Integer) ask[1]);
            due.same("means of " + ask[0], x.means(token), (Integer) ask[2]);
        }
        due.same("means(0): int", x.means(0), PlainJava.BAD);
        due.same("means(2): (", x.means(2), PlainJava.BAD);
        due.same("means(-1)", x.means(-1), PlainJava.BAD);
        due.same("means behind the last", x.means(x.told(0)), PlainJava.BAD);
        PlainJava y = Due.of("void m() { x; }");
        due.same("means of a program with an ERROR", y.means(1), PlainJava.NO);
        due.same("but no NAME is looked at first", y.means(0), PlainJava.BAD);
    }

    /** Asks for the exp of a text's piece. */
    private static void type(Due due, PlainJava x, String text, String piece, int want) {
        int i = Due.tokenAt(text, piece, 0);
        int k = Due.tokenBehind(text, piece, 0);
        due.same("type of " + piece, x.type(i, k), want);
    }

    private static void types(Due due) {
        String text = "void m(boolean o, byte b, char c, int i, long l) { "
            + "out(b + b); out(-c); out(~l); out(+b * l); out(b << l); out(l >>> b); out(i % 2L); out('a' - 'b'); "
            + "o = b < c & o; o = !o; o = i == 3L; o = o && i != 4; o ^= true; b = 5; b += 7L; c++; --b; l = (long) i; l = (byte) 300; "
            + "in(); out((i)); i = 7 * (i = 8) + 9; f(b - 1 - i - 2); case0(); } void f(int i) { } char case0() { return 'x'; }";
        PlainJava x = Due.of(text);
        due.same("judge()", x.judge(), 0);
        String[] pieces = {"b + b", "-c", "c); out(~l)", "~l", "+b * l", "+b", "b << l", "l >>> b", "i % 2L", "2L", "'a' - 'b'", "'a'",
            "b < c & o", "b < c", "!o", "i == 3L", "o && i != 4", "o ^= true", "true", "b = 5", "b += 7L", "7L", "c++", "--b",
            "l = (long) i", "(long) i", "(byte) 300", "300", "in()", "out((i))", "(i)", "i = 7 * (i = 8) + 9", "7 * (i = 8) + 9",
            "7 * (i = 8)", "(i = 8)", "i = 8", "b - 1 - i - 2", "b - 1 - i", "b - 1", "f(b - 1 - i - 2)", "case0()"};
        int[] want = {3, 3, -1, 4, 4, 3, 3, 4, 4, 4, 3, 2, 0, 0, 0, 0, 0, 0, 0, 1, 1, 4, 2, 1, 4, 4, 1, 3, 3, 5, 3, 3, 3, 3, 3, 3, 3, 3, 3, 5, 2};
        for (int n = 0; n < pieces.length; n++) {
            type(due, x, text, pieces[n], want[n]);
        }
        // no exps: a chain's right part, what is assigned to, a method's NAME, half of an exp
        type(due, x, text, "1 - i - 2", -1);
        int b = Due.tokenAt(text, "b = 5", 0);
        due.same("the variable of an assignment is no exp", x.type(b, b), PlainJava.BAD);
        int c = Due.tokenAt(text, "c++", 0);
        due.same("the variable of ++ is no exp", x.type(c, c), PlainJava.BAD);
        int in = Due.tokenAt(text, "in()", 0);
        due.same("a method's NAME is no exp", x.type(in, in), PlainJava.BAD);
        due.same("type(0, 0)", x.type(0, 0), PlainJava.BAD);
        due.same("type(-1, -1)", x.type(-1, -1), PlainJava.BAD);
        due.same("type(k, i)", x.type(in + 2, in), PlainJava.BAD);
        due.same("type behind the last", x.type(x.told(0), x.told(0)), PlainJava.BAD);
        // the ( ) of if and the like belong to no exp
        String plain = Due.m("if (true) ; switch (1) { case 2: }");
        PlainJava y = Due.of(plain);
        type(due, y, plain, "(true)", -1);
        type(due, y, plain, "true", 0);
        type(due, y, plain, "(1)", -1);
        type(due, y, plain, "2", 3);
    }

    private static void choices(Due due) {
        String text = "void m(boolean o, byte b, char c, int i, long l) { out(o ? b : b); out(o ? b : 127); out(o ? 128 : b); out(o ? -1 : c); "
            + "out(o ? 65535 : c); out(o ? b : c); out(o ? b : 'a'); out(o ? i : l); out(o ? 5 : 5L); out(o ? b : l); out(o ? i : b); "
            + "o = o ? o : true; out(o ? 1 : o ? c : 2); final int k = 9; out(o ? b : k); out(o ? (int) 7L : c); }";
        PlainJava x = Due.of(text);
        due.same("judge()", x.judge(), 0);
        String[] pieces = {"o ? b : b", "o ? b : 127", "o ? 128 : b", "o ? -1 : c", "o ? 65535 : c", "o ? b : c", "o ? b : 'a'", "o ? i : l",
            "o ? 5 : 5L", "o ? b : l", "o ? i : b", "o ? o : true", "o ? 1 : o ? c : 2", "o ? c : 2", "o ? b : k", "o ? (int) 7L : c"};
        int[] want = {1, 1, 3, 3, 2, 3, 3, 4, 4, 4, 3, 0, 2, 2, 1, 2};
        for (int n = 0; n < pieces.length; n++) {
            type(due, x, text, pieces[n], want[n]);
        }
    }

    private static void constant(Due due, String exp, long want) {
        String text = "void m(int v) { final byte k = 5; final long g = 1L << 40; final boolean t = 1 < 2; boolean d = @ == @; "
            .replace("@", exp) + "}";
        PlainJava x = Due.of(text);
        int i = Due.tokenAt(text, "d = " + exp, 0) + 2;
        int k = Due.tokenBehind(text, "d = " + exp, 0);
        due.same("judge() of " + exp, x.judge(), 0);
        due.same("constant of " + exp, x.constant(i, k), want);
    }

    private static void constants(Due due) {
        constant(due, "7", 7);
        constant(due, "'a'", 97);
        constant(due, "(true)", 1);
        constant(due, "(false)", 0);
        constant(due, "(7 + 3 * 2 - 1)", 12);
        constant(due, "-2147483648", -2147483648L);
        constant(due, "(2147483647 + 1)", -2147483648L);
        constant(due, "(-2147483648 / -1)", -2147483648L);
        constant(due, "(-9223372036854775808L / -1)", Long.MIN_VALUE);
        constant(due, "(2147483647 + 1L)", 2147483648L);
        constant(due, "(1 << 33)", 2);
        constant(due, "(1L << 33)", 8589934592L);
        constant(due, "(1 << 33L)", 2);
        constant(due, "(-1 >>> 28)", 15);
        constant(due, "(-1L >>> 60L)", 15);
        constant(due, "(-17 >> 2)", -5);
        constant(due, "(-17 / 5)", -3);
        constant(due, "(-17 % 5)", -2);
        constant(due, "(~5 & 12 | 3 ^ 1)", 10);
        constant(due, "(byte) 300", 44);
        constant(due, "(byte) 200", -56);
        constant(due, "(char) -1", 65535);
        constant(due, "(int) 4294967297L", 1);
        constant(due, "(char) (byte) 200", 65480);
        constant(due, "k", 5);
        constant(due, "g", 1099511627776L);
        constant(due, "(t && !false || false)", 1);
        constant(due, "(true ^ t)", 0);
        constant(due, "(t ? k : 7)", 5);
        constant(due, "('a' < 98)", 1);
        constant(due, "(k * k == 25)", 1);
        constant(due, "v", Due.NOTHING);
        constant(due, "(v * 0)", Due.NOTHING);
        constant(due, "(false && v > 1)", Due.NOTHING);
        constant(due, "(true ? 1 : v)", Due.NOTHING);
        constant(due, "in()", Due.NOTHING);
        constant(due, "(v = 1)", Due.NOTHING);
        constant(due, "v++", Due.NOTHING);
        // / and % by 0: no CONSTANT, nor what it is a part of, whichever side a run would leave out
        constant(due, "(1 / 0)", Due.NOTHING);
        constant(due, "(1 % 0)", Due.NOTHING);
        constant(due, "(1L / (5 - k))", Due.NOTHING);
        constant(due, "(true ? 1 : 1 / 0)", Due.NOTHING);
        constant(due, "(false ? 1 % 0 : 1)", Due.NOTHING);
        constant(due, "(1 / 0 == 1 ? 2 : 3)", Due.NOTHING);
        constant(due, "(byte) (true ? 1 : -(1 / 0))", Due.NOTHING);
        constant(due, "(false ? 1 : 1 / 0)", Due.NOTHING);
        constant(due, "(false && 1 / 0 == 1)", Due.NOTHING);
        constant(due, "(1 / 0 == 1 && false)", Due.NOTHING);
        constant(due, "(false && true)", 0);
        constant(due, "(true && true)", 1);
        constant(due, "(true || false)", 1);
        constant(due, "(false || false)", 0);
        constant(due, "(true && 1 / 0 == 1)", Due.NOTHING);
        constant(due, "(true || 1 / 0 == 1)", Due.NOTHING);
        constant(due, "(1 / 0 == 1 || true)", Due.NOTHING);
        constant(due, "(0 * (1 / 0))", Due.NOTHING);
        String text = Due.m("out(-2147483648); out(-9223372036854775808L); final int a = 1 / 0; out(a); final int b = in(); out(b); int c = 3; out(c);");
        PlainJava x = Due.of(text);
        int i = Due.tokenAt(text, "2147483648", 0);
        due.same("2147483648 by itself behind -", x.constant(i, i), -2147483648L);
        due.same("and its TYPE", x.type(i, i), 3);
        i = Due.tokenAt(text, "9223372036854775808L", 0);
        due.same("9223372036854775808L by itself behind -", x.constant(i, i), Long.MIN_VALUE);
        for (String name : new String[] {"a", "b", "c"}) {
            i = Due.tokenAt(text, name + ");", 0);
            due.same("constant of " + name, x.constant(i, i), Due.NOTHING);
        }
        due.same("constant(0, 0)", x.constant(0, 0), Due.NOTHING);
        due.same("constant(-1, 99)", x.constant(-1, 99), Due.NOTHING);
    }

    private static void ends(Due due) {
        String text = "int m(int a) { int b = 1; ; b = 2; { } { if (a > 1) return 3; } while (a > 2) ; l: { break l; } switch (a) { case 1: int c; break; default: throw 4; } "
            + "try { out(5); } catch (e) { throw 6; } finally { } try { return 7; } catch (e) { } for (int i = 8; true; ) { if (a > 9) continue; else break; } "
            + "do { if (a > 10) return 11; } while (a > 12); while (true) { a++; } }";
        PlainJava x = Due.of(text);
        due.same("judge()", x.judge(), 0);
        Object[][] asked = {
            {"int b", 1}, {"; b = 2", 1}, {"b = 2", 1}, {"{ }", 1}, {"{ if (a > 1)", 1}, {"if (a > 1)", 1}, {"return 3", 0}, {"while (a > 2)", 1},
            {"l: ", 1}, {"{ break l", 0}, {"break l", 0}, {"switch", 1}, {"int c", 1}, {"break; default", 0}, {"throw 4", 0}, {"try { out(5)", 1},
            {"out(5)", 1}, {"throw 6", 0}, {"try { return 7", 1}, {"return 7", 0}, {"for (", 1}, {"{ if (a > 9)", 0}, {"if (a > 9)", 0}, {"continue", 0},
            {"break; } do", 0}, {"do {", 1}, {"{ if (a > 10)", 1}, {"while (true)", 0}, {"{ a++", 1}, {"a++", 1},
            // no S's of their own
            {"{ int b", -1}, {"{ out(5)", -1}, {"{ throw 6", -1}, {"{ } try { return", -1}, {"int i = 8", -1}, {"case 1", -1}, {"default", -1}, {"int m", -1},
            {"while (a > 12)", -1}, {"else break", -1}, {"b = 1", -1}, {"} }", -1}};
        for (Object[] ask : asked) {
            due.same("ends of " + ask[0], x.ends(Due.tokenAt(text, (String) ask[0], 0)), (Integer) ask[1]);
        }
        due.same("ends(-1)", x.ends(-1), PlainJava.BAD);
        due.same("ends behind the last", x.ends(x.told(0)), PlainJava.BAD);
    }

    private static void assigned(Due due) {
        String text = "void n(int z) { } void m(int a, final long b) { int c; { c = 1; int d = 2; out(d); } out(3); int e = 4; if (a > 5 && (c = 6) > 7) out(8); else out(9); "
            + "try { int f; f = 10; out(f); } catch (g) { out(11); } finally { out(12); } int h; switch (a) { case 1: h = 13; int i = 14; case 2: out(15); default: } "
            + "for (int j = 16; a > 17; ) { out(18); int k; if (false) out(19); } l: do { h = 20; if (a > 21) continue l; out(22); } while (a > 23); out(24); }";
        PlainJava x = Due.of(text);
        due.same("judge()", x.judge(), 0);
        // variables: 0 z, 1 a, 2 b, 3 c, 4 d, 5 e, 6 f, 7 g, 8 h, 9 i, 10 j, 11 k
        Object[][] asked = {
            {"int c", 1, 1}, {"int c", 2, 1}, {"int c", 3, -1}, {"int c", 0, -1}, {"{ c = 1", 3, 0}, {"c = 1", 3, 0}, {"int d", 3, 1}, {"int d", 4, -1},
            {"out(d)", 4, 1}, {"out(3)", 4, -1}, {"out(3)", 3, 1}, {"int e", 5, -1}, {"if (a > 5", 5, 1}, {"out(8)", 3, 1}, {"out(9)", 3, 1},
            {"f = 10", 6, 0}, {"out(f)", 6, 1}, {"out(11)", 6, -1}, {"out(11)", 7, 1}, {"out(12)", 7, -1}, {"out(12)", 5, 1}, {"int h", 8, -1},
            {"switch", 8, 0}, {"h = 13", 8, 0}, {"h = 13", 9, -1}, {"int i = 14", 8, 1}, {"out(15)", 8, 0}, {"out(15)", 9, 0}, {"for (", 9, -1}, {"for (", 8, 0},
            {"{ out(18)", 10, 1}, {"out(18)", 10, 1}, {"out(18)", 8, 0}, {"if (false)", 11, 0}, {"out(19)", 11, 1}, {"out(19)", 8, 1}, {"l: ", 8, 0},
            {"do {", 8, 0}, {"out(22)", 8, 1}, {"out(24)", 8, 1}, {"out(24)", 10, -1}, {"out(24)", 12, -1}, {"out(24)", -1, -1},
            {"int j", 1, -1}, {"case 1", 1, -1}, {"{ int f", 1, -1}};
        for (Object[] ask : asked) {
            due.same("assigned ahead of " + ask[0] + " of " + ask[1],
                x.assigned(Due.tokenAt(text, (String) ask[0], 0), (Integer) ask[1]), (Integer) ask[2]);
        }
        due.same("assigned(-1, 0)", x.assigned(-1, 0), PlainJava.BAD);
        due.same("assigned(0, 0)", x.assigned(0, 0), PlainJava.BAD);
        String open = Due.m("int a; if (in() > 1 && (a = 1) > 0) out(1); else out(2); if (in() > 1) { a = 2; } else return; out(3);");
        PlainJava y = Due.of(open);
        due.same("where it is true", y.assigned(Due.tokenAt(open, "out(1)", 0), 0), 1);
        due.same("where it is false", y.assigned(Due.tokenAt(open, "out(2)", 0), 0), 0);
        due.same("behind both", y.assigned(Due.tokenAt(open, "if (in() > 1) {", 0), 0), 0);
        due.same("where the other side returns", y.assigned(Due.tokenAt(open, "out(3)", 0), 0), 1);
    }

    private static void withAnError(Due due) {
        PlainJava x = Due.of("void m(int a) { out(a); x; }");
        due.same("told(0)", x.told(0), 15);
        due.same("token(0, 1)", x.token(0, 1), 4);
        due.same("method(0, 10)", x.method(0, 10), 3);
        due.same("variable(0, 1)", x.variable(0, 1), 3);
        due.same("means(1)", x.means(1), PlainJava.NO);
        due.same("type(9, 9)", x.type(9, 9), PlainJava.NO);
        due.same("type(-1, -1)", x.type(-1, -1), PlainJava.NO);
        due.same("constant(9, 9)", x.constant(9, 9), Due.NOTHING);
        due.same("ends(7)", x.ends(7), PlainJava.NO);
        due.same("ends(-1)", x.ends(-1), PlainJava.NO);
        due.same("assigned(7, 0)", x.assigned(7, 0), PlainJava.NO);
        due.same("assigned(-1, -1)", x.assigned(-1, -1), PlainJava.NO);
        due.same("run(0, 1)", x.run(0, 1), PlainJava.NO);
        due.same("run(1, 1)", x.run(1, 1), PlainJava.BAD);
        due.same("run(0, 0)", x.run(0, 0), PlainJava.BAD);
        due.same("ran(1)", x.ran(1), Due.NOTHING);
    }
}
