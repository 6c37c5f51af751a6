/** Promises 16 to 20: arguments, INPUTS, runs and what is told of them. */
final class RunTest {
    public static void main(String[] args) {
        Due due = new Due();
        argumentsAndInputs(due);
        steps(due);
        limits(due);
        calls(due);
        numbersTold(due);
        values(due);
        assignments(due);
        orderOfWork(due);
        loops(due);
        switches(due);
        throwing(due);
        finallies(due);
        cutOff(due);
        latest(due);
        refused(due);
        big(due);
        due.end();
    }

    /** Runs method 0 of a text: how it ends, with which value, and which numbers it tells. */
    private static PlainJava runs(Due due, String text, int outcome, long value, long... told) {
        PlainJava x = Due.of(text);
        look(due, x, text, 20000, outcome, value, told);
        return x;
    }

    private static void look(Due due, PlainJava x, String text, int limit, int outcome, long value, long... told) {
        due.same("run(0, " + limit + ") of " + text, x.run(0, limit), outcome);
        due.same("ran(0) of " + text, x.ran(0), value);
        due.same("ran(2) of " + text, x.ran(2), told.length);
        for (int i = 0; i < told.length; i++) {
            due.same("ran(" + (10 + i) + ") of " + text, x.ran(10 + i), told[i]);
        }
        due.same("ran behind the last number of " + text, x.ran(10 + told.length), Due.NOTHING);
    }

    private static void stepsOf(Due due, String text, int steps) {
        PlainJava x = Due.of(text);
        x.run(0, 20000);
        due.same("STEPS of " + text, x.ran(1), steps);
    }

    private static void argumentsAndInputs(Due due) {
        PlainJava x = Due.of("void m(boolean a, byte b, char c, int d, long e, int f) { out(a ? 1 : 0); out(b); out(c); out(d); out(e); out(f); } void n() { out(in()); out(in()); out(in()); }");
        for (int i = 0; i < 6; i++) {
            due.same("argument(" + i + ")", x.argument(i, (1L << 40) + (1L << 32) - 200 + i), 1);
        }
        due.same("argument(6)", x.argument(6, 1), PlainJava.BAD);
        due.same("argument(-1)", x.argument(-1, 1), PlainJava.BAD);
        long v = (1L << 40) + (1L << 32) - 200;
        look(due, x, "six arguments", 100, 0, 0, 1, 57, 65338, -197, v + 4, -195);
        x.argument(0, 0);
        x.argument(1, Long.MIN_VALUE);
        look(due, x, "two of them changed", 100, 0, 0, 0, 0, 65338, -197, v + 4, -195);
        due.same("ran(3) without in()", x.ran(3), 0);
        for (int i = 1; i <= 40; i++) {
            due.same("input " + i, x.input(i == 1 ? Integer.MIN_VALUE : i), i);
        }
        due.same("input 41", x.input(7), PlainJava.FULL);
        due.same("told(3)", x.told(3), 40);
        for (int round = 0; round < 2; round++) {
            due.same("run(1, 100)", x.run(1, 100), 0);
            due.same("first INPUT", x.ran(10), Integer.MIN_VALUE);
            due.same("third INPUT", x.ran(12), 3);
            due.same("ran(3)", x.ran(3), 3);
            due.same("INPUTS stay", x.told(3), 40);
        }
        due.same("drain()", x.drain(), 40);
        due.same("drain() again", x.drain(), 0);
        due.same("ran(3) behind drain()", x.ran(3), 3);
        due.same("input", x.input(5), 1);
        due.same("run(1, 100)", x.run(1, 100), 0);
        due.same("the INPUT", x.ran(10), 5);
        due.same("0 behind the last one", x.ran(11), 0);
        due.same("those behind the last one count", x.ran(3), 3);
        Due.feed(x, "int o(int a) { return a + in(); }");
        due.same("read()", x.read(), 1);
        due.same("INPUTS stay behind read()", x.told(3), 1);
        due.same("arguments, too: run", x.run(0, 9), 1);
        due.same("arguments, too: ran(0)", x.ran(0), 5);
    }

    private static void steps(Due due) {
        stepsOf(due, Due.m(""), 1);
        stepsOf(due, Due.m("; ;"), 3);
        stepsOf(due, Due.m("{ int a; } int a = 1;"), 4);
        stepsOf(due, Due.m("l: { break l; }"), 4);
        stepsOf(due, Due.m("out(in());"), 4);
        stepsOf(due, Due.m("if (true) ; else { }"), 3);
        stepsOf(due, Due.m("if (false) ; else { ; }"), 4);
        stepsOf(due, Due.m("int i = 0; while (i < 2) i++;"), 8);
        stepsOf(due, Due.m("int i = 0; do i++; while (i < 2);"), 7);
        stepsOf(due, Due.m("for (int i = 0; i < 2; i++) ;"), 7);
        stepsOf(due, Due.m("for (;;) break;"), 4);
        stepsOf(due, Due.m("int i = 0; for (; ; i++) if (i == 1) break;"), 8);
        stepsOf(due, Due.m("switch (1) { case 1: ; { } }"), 4);
        stepsOf(due, Due.m("try { ; } catch (e) { ; } finally { ; }"), 4);
        stepsOf(due, Due.m("try { throw 1; } catch (e) { ; }"), 4);
        stepsOf(due, "void m() { f(1); } int f(int a) { return a; }", 4);
        stepsOf(due, "void m() { try { f(1 / in()); } catch (e) { } } int f(int a) { return a; }", 4);
        stepsOf(due, Due.m("l: k: ;"), 4);
    }

    private static void limits(Due due) {
        PlainJava x = Due.of(Due.m("out(1); out(2);"));
        due.same("run(0, 0)", x.run(0, 0), PlainJava.BAD);
        due.same("run(0, 20001)", x.run(0, 20001), PlainJava.BAD);
        due.same("run(0, -1)", x.run(0, -1), PlainJava.BAD);
        due.same("run(1, 1)", x.run(1, 1), PlainJava.BAD);
        due.same("run(-1, 1)", x.run(-1, 1), PlainJava.BAD);
        due.same("run(10, 1): out is none of the program's", x.run(10, 1), PlainJava.BAD);
        due.same("none of these was a run", x.ran(1), Due.NOTHING);
        look(due, x, "1 STEP", 1, 3, 0);
        due.same("ran(1)", x.ran(1), 1);
        due.same("ran(4) without an S", x.ran(4), Due.NOTHING);
        look(due, x, "2 STEPS", 2, 3, 0);
        due.same("ran(4)", x.ran(4), 5);
        look(due, x, "3 STEPS", 3, 3, 0, 1);
        look(due, x, "4 STEPS", 4, 3, 0, 1);
        due.same("ran(1)", x.ran(1), 4);
        due.same("ran(4)", x.ran(4), 10);
        look(due, x, "5 STEPS", 5, 0, 0, 1, 2);
        due.same("run that is refused", x.run(0, 0), PlainJava.BAD);
        due.same("the latest run stays", x.ran(1), 5);
        look(due, Due.of(Due.m("")), "nothing in 1 STEP", 1, 0, 0);
        look(due, Due.of(Due.m("while (true) ;")), "for ever", 20000, 3, 0);
        PlainJava y = Due.of("int m() { ; int i = 0; while (i < 9997) i++; return i; }");
        look(due, y, "20000 STEPS", 20000, 1, 9997);
        due.same("ran(1)", y.ran(1), 20000);
        look(due, y, "one STEP less", 19999, 3, 0);
    }

    private static void calls(Due due) {
        // the first call is the first of 30
        PlainJava x = Due.of("int m(int n) { return n < 2 ? 1 : 1 + m(n - 1); }");
        x.argument(0, 30);
        look(due, x, "30 calls within one another", 20000, 1, 30);
        x.argument(0, 31);
        look(due, x, "31 calls within one another", 20000, 4, 0);
        PlainJava y = Due.of("void m(int n) { if (n < 2) out(n + in()); else m(n - 1); }");
        y.argument(0, 29);
        look(due, y, "in() and out() within 29", 20000, 0, 0, 1);
        runs(due, "void m() { for (int i = 0; i < 100; i++) f(); out(1); } void f() { }", 0, 0, 1);
        runs(due, "int m() { return f(1) + f(2L) * f('c') + f((byte) 4); } int f(int a) { return 100; } int f(long a) { return 200; } "
            + "int f(byte a) { return 300; }", 1, 100 + 200 * 100 + 300);
        runs(due, "long m() { return f(7, 'a', true); } long f(long a, int b, boolean c) { return c ? a * 1000 + b : 0; }", 1, 7097);
        runs(due, "int m() { int a = 5; f(a); return a; } void f(int a) { a = 6; int b = a; out(b); }", 1, 5, 6);
        runs(due, "int m() { return fib(15); } int fib(int n) { return n < 2 ? n : fib(n - 1) + fib(n - 2); }", 1, 610);
        runs(due, "boolean m() { return odd(7) && !odd(4); } boolean odd(int n) { return n == 0 ? false : even(n - 1); } "
            + "boolean even(int n) { return n == 0 ? true : odd(n - 1); }", 1, 1);
        runs(due, "void m() { out(1); } void out(int a) { out(a + 1L); }", 0, 0, 2);
    }

    private static void numbersTold(Due due) {
        PlainJava x = Due.of("void m(int n) { for (int i = 0; i < n; i++) out(i * 3); }");
        x.argument(0, 200);
        due.same("200 numbers", x.run(0, 20000), 0);
        due.same("ran(2)", x.ran(2), 200);
        due.same("ran(209)", x.ran(209), 597);
        due.same("ran(210)", x.ran(210), Due.NOTHING);
        x.argument(0, 201);
        due.same("201 numbers", x.run(0, 20000), 5);
        due.same("ran(2)", x.ran(2), 200);
        due.same("ran(0)", x.ran(0), 0);
        for (int what : new int[] {-1, 5, 9, Integer.MIN_VALUE, Integer.MAX_VALUE}) {
            due.same("ran(" + what + ")", x.ran(what), Due.NOTHING);
        }
    }

    private static void values(Due due) {
        runs(due, "int m() { int a = 2147483647; return a + 1; }", 1, -2147483648L);
        runs(due, "int m() { int a = 65536; return a * a; }", 1, 0);
        runs(due, "long m() { int a = 65536; return a * a; }", 1, 0);
        runs(due, "long m() { long a = 65536; return a * a; }", 1, 4294967296L);
        runs(due, "long m() { long a = 9223372036854775807L; return a + 1; }", 1, Long.MIN_VALUE);
        runs(due, "int m() { int a = -2147483648; int b = -1; out(a % b); return a / b; }", 1, -2147483648L, 0);
        runs(due, "long m() { long a = -9223372036854775808L; long b = -1; out(a % b); return a / b; }", 1, Long.MIN_VALUE, 0);
        runs(due, "void m() { int a = -17; out(a / 5); out(a % 5); out(a >> 1); out(a >>> 28); out(a << 28); out(a >> 33); out(~a); out(-a); out(+a); }",
            0, 0, -3, -2, -9, 15, -268435456, -9, 16, 17, -17);
        runs(due, "void m() { long a = -17; out(a >> 1); out(a >>> 60); out(a << 60); out(a >> 65); out(a >>> 65L); }",
            0, 0, -9, 15, -1152921504606846976L, -9, 9223372036854775799L);
        runs(due, "void m() { int a = 300; out((byte) a); out((char) -a); out((byte) 200); long b = 1L << 35; out((int) b); out((int) (b + 7)); out((char) (byte) a); }",
            0, 0, 44, 65236, -56, 0, 7, 44);
        runs(due, "void m() { char a = 'z'; byte b = -1; out(a + b); out((char) b); out(a > b ? a : b); out(a == 122 ? 1 : 2); }", 0, 0, 121, 65535, 122, 1);
        runs(due, "boolean m() { boolean a = true; boolean b = false; return a & !b ^ (a | b) == false; }", 1, 1);
        runs(due, "void m() { int a = 6; int b = 3; out(a & b); out(a | b); out(a ^ b); out(a < b ? 1 : 0); out(a >= b ? 1 : 0); out(a != b ? 1 : 0); out(a <= b ? 1 : 0); }",
            0, 0, 2, 7, 5, 0, 1, 1, 0);
        runs(due, "long m() { return in() > 1 ? 5 : 6L; }", 1, 6);
        runs(due, "char m() { return 'a'; }", 1, 97);
        runs(due, "void m() { return; }", 0, 0);
    }

    private static void assignments(Due due) {
        runs(due, "void m() { byte a = 127; out(a++); out(a); out(--a); a += 1000; out(a); a <<= 3L; out(a); a >>>= 1; out(a); }",
            0, 0, 127, -128, 127, 103, 56, 28);
        runs(due, "void m() { byte a = -1; a >>>= 1; out(a); char b = 0; b--; out(b); out(++b); b -= 1; out(b); }", 0, 0, -1, 65535, 0, 65535);
        runs(due, "void m() { int a = 5; a *= 3; a -= 1L << 33; out(a); a /= 4; out(a); a %= 2; out(a); a |= 12; a &= 6; a ^= 3; out(a); }",
            0, 0, 15, 3, 1, 7);
        runs(due, "void m() { boolean a = true; a &= false; out(a ? 1 : 0); a |= true; out(a ? 1 : 0); a ^= true; out(a ? 1 : 0); }", 0, 0, 0, 1, 0);
        runs(due, "void m() { long a; byte b; int c = 7; a = b = 5; out(a + b); out(c = 9); out(c); a = c = 'x'; out(a); }", 0, 0, 10, 9, 9, 120);
        runs(due, "int m() { int a = 2147483647; a += 1L; return a; }", 1, -2147483648L);
    }

    private static void orderOfWork(Due due) {
        runs(due, "void m() { int a = 1; a += a++ + ++a; out(a); a = 5; a = a++ * 2 + a; out(a); a = 1; out(a + (a = 10) + a); }", 0, 0, 5, 16, 21);
        runs(due, "int m() { return t(1) + t(2) * t(3) - (t(4) << t(5)); } int t(int a) { out(a); return a; }", 1, 7 - 128, 1, 2, 3, 4, 5);
        runs(due, "void m() { f(t(1), t(2), t(3)); } void f(int a, int b, int c) { out(a * 100 + b * 10 + c); } int t(int a) { out(a); return a; }",
            0, 0, 1, 2, 3, 123);
        runs(due, "void m() { boolean a = t(0) && t(1) || t(2) && t(3); out(a ? 1 : 0); a = t(4) || t(5); a = t(0) & t(6); a = t(7) | t(8); } "
            + "boolean t(int a) { out(a); return a != 0; }", 0, 0, 0, 2, 3, 1, 4, 0, 6, 7, 8);
        runs(due, "int m() { int a = t(1) > 0 ? t(2) : t(3); return t(0) > 0 ? t(4) : t(0) > 0 ? t(5) : t(6); } int t(int a) { out(a); return a; }",
            1, 6, 1, 2, 0, 0, 6);
        runs(due, "void m() { int a = 1; try { a += 1 / (a = 0); } catch (e) { out(e); out(a); } try { a = 7 / in(); } catch (e) { out(a); } }", 0, 0, -1, 0, 0);
        runs(due, "void m() { int a = 1; int b = a + (a += 5) * (a -= 2); out(b); out(a); }", 0, 0, 25, 4);
        runs(due, "int m() { return 100 - 10 - 1 - 20 / 2 / 5 % 3 + (1 << 2 << 1); }", 1, 100 - 10 - 1 - 20 / 2 / 5 % 3 + (1 << 2 << 1));
        runs(due, "boolean m() { return 1 + 2 << 1 > 5 == true && 7 - 4 * 1 != 3 | 6 == 6 ^ 1 < 0 || false; }", 1, 1);
    }

    private static void loops(Due due) {
        runs(due, "void m() { for (int i = 0; i < 5; i++) { if (i == 1) continue; if (i == 3) break; out(i); } }", 0, 0, 0, 2);
        runs(due, "void m() { int i = 0; do { i++; if (i == 2) continue; out(i); } while (i < 4); }", 0, 0, 1, 3, 4);
        runs(due, "void m() { l: for (int i = 0; i < 4; i++) for (int j = 0; ; j++) { if (j == i) continue l; if (i == 3) break l; out(i * 10 + j); } out(99); }",
            0, 0, 10, 20, 21, 99);
        runs(due, "void m() { int i; int j; for (i = 0, j = 10; i < j; i += 2, j--) ; out(i); out(j); }", 0, 0, 8, 6);
        runs(due, "void m() { l: { out(1); if (in() == 0) break l; out(2); } out(3); }", 0, 0, 1, 3);
        runs(due, "void m() { int i = 3; while (i-- > 0) { int j; j = i * i; out(j); } }", 0, 0, 4, 1, 0);
        runs(due, "void m() { while (false || in() > 0) out(1); for (; in() > 0; ) out(2); do out(3); while (in() > 0); }", 0, 0, 3);
        runs(due, "void m() { if (in() > 0) if (in() > 0) out(1); else out(2); if (in() == 0) if (in() > 0) out(3); else out(4); }", 0, 0, 4);
    }

    private static void switches(Due due) {
        String text = "void m(int a) { switch (a) { case 1: out(1); case 2: out(2); break; default: out(9); case 3: out(3); case -4: } out(0); }";
        PlainJava x = Due.of(text);
        long[][] told = {{1, 1, 2, 0}, {2, 2, 0}, {3, 3, 0}, {-4, 0}, {5, 9, 3, 0}};
        for (long[] row : told) {
            x.argument(0, row[0]);
            look(due, x, "switch of " + row[0], 99, 0, 0, java.util.Arrays.copyOfRange(row, 1, row.length));
        }
        runs(due, "void m() { switch (in()) { case 1: out(1); } switch (in()) { } out(2); }", 0, 0, 2);
        // past the exp of a CONSTANT it has its value all the same
        runs(due, "void m() { switch (in()) { case 1: final int a = 5; final byte b = a + 1; case 0: out(a); out(b); } }", 0, 0, 5, 6);
        runs(due, "void m() { switch (in()) { case 1: int a = 5; case 0: a = 7; out(a); } }", 0, 0, 7);
        runs(due, "void m() { for (int i = 0; i < 3; i++) switch (i) { case 1: continue; default: out(i); } }", 0, 0, 0, 2);
        runs(due, "void m() { byte a = -56; switch (a) { case (byte) 200: out(1); } char c = 'x'; switch (c) { case 120: out(2); } }", 0, 0, 1, 2);
    }

    private static void throwing(Due due) {
        runs(due, "void m() { throw 7; }", 2, 7);
        runs(due, "void m() { throw 'a'; }", 2, 97);
        runs(due, "int m() { return 1 / in(); }", 2, -1);
        runs(due, "long m() { return 1L % in(); }", 2, -1);
        runs(due, "void m() { int a = 1; a %= in(); }", 2, -1);
        runs(due, "void m() { try { throw 5; } catch (e) { out(e); e++; out(e); } }", 0, 0, 5, 6);
        runs(due, "void m() { try { f(3); } catch (e) { out(e); } } void f(int a) { if (a == 0) throw 8; f(a - 1); out(1); }", 0, 0, 8);
        runs(due, "void m() { try { try { throw 1; } catch (e) { throw e + 1; } } catch (e) { out(e); } }", 0, 0, 2);
        runs(due, "void m() { try { out(f() + 1); } catch (e) { out(e); } } int f() { throw -9; }", 0, 0, -9);
        runs(due, "int m() { try { return f(1, f(2, 1 / in())); } catch (e) { return 50 + e; } } int f(int a, int b) { return a + b; }", 1, 49);
        runs(due, "void m() { for (int i = 0; i < 3; i++) try { out(6 / i); } catch (e) { out(e); } }", 0, 0, -1, 6, 3);
        runs(due, "void m() { while (1 / in() > 0) ; }", 2, -1);
    }

    private static void finallies(Due due) {
        runs(due, "void m() { try { out(1); } finally { out(2); } out(3); }", 0, 0, 1, 2, 3);
        runs(due, "void m() { try { throw 1; } finally { out(2); } }", 2, 1, 2);
        runs(due, "int m() { try { return 1; } finally { out(2); } }", 1, 1, 2);
        runs(due, "int m() { int a = 1; try { return a; } finally { a = 2; } }", 1, 1);
        runs(due, "int m() { try { return 1; } finally { return 2; } }", 1, 2);
        runs(due, "int m() { try { throw 1; } finally { return 2; } }", 1, 2);
        runs(due, "int m() { try { return 1; } finally { throw 2; } }", 2, 2);
        runs(due, "void m() { try { throw 1; } catch (e) { throw 2; } finally { throw 3; } }", 2, 3);
        runs(due, "void m() { try { throw 1; } catch (e) { out(e); throw 2; } finally { out(3); } }", 2, 2, 1, 3);
        runs(due, "int m() { while (true) { try { return 1; } finally { break; } } return 2; }", 1, 2);
        runs(due, "int m() { for (int i = 0; i < 3; i++) { try { return i; } finally { continue; } } return 9; }", 1, 9);
        runs(due, "void m() { l: { try { throw 1; } finally { break l; } } out(2); }", 0, 0, 2);
        runs(due, "void m() { for (int i = 0; i < 3; i++) { try { if (i == 1) continue; if (i == 2) break; out(i); } finally { out(i + 10); } } out(5); }",
            0, 0, 0, 10, 11, 12, 5);
        runs(due, "void m() { l: for (;;) { try { try { break l; } finally { out(1); } } finally { out(2); } } out(3); }", 0, 0, 1, 2, 3);
        runs(due, "int m() { try { try { return 1; } finally { out(2); } } finally { out(3); } }", 1, 1, 2, 3);
        runs(due, "int m() { try { return 1; } finally { try { throw 2; } catch (e) { out(e); } finally { out(3); } } }", 1, 1, 2, 3);
        runs(due, "int m() { try { return 1; } finally { for (int i = 0; i < 2; i++) { try { continue; } finally { out(i); } } } }", 1, 1, 0, 1);
        runs(due, "void m() { try { f(); } catch (e) { out(e); } } void f() { try { out(1 / in()); } finally { out(7); } }", 0, 0, 7, -1);
        runs(due, "void m() { try { try { throw 1; } finally { out(1); } } catch (e) { out(e + 1); } finally { out(3); } }", 0, 0, 1, 2, 3);
        runs(due, "int m() { return f(3); } int f(int a) { try { if (a == 0) throw 4; return f(a - 1); } finally { out(a); if (a == 2) return 5; } }",
            1, 5, 0, 1, 2, 3);
        runs(due, "int m() { l: while (true) { try { while (true) { try { break l; } finally { break; } } out(1); return 2; } finally { out(3); } } }",
            1, 2, 1, 3);
    }

    /** What ends a run at once is caught by nothing. */
    private static void cutOff(Due due) {
        PlainJava x = Due.of("void m() { try { while (true) ; } catch (e) { out(1); } finally { out(2); } }");
        look(due, x, "STEPS within try", 50, 3, 0);
        due.same("ran(1)", x.ran(1), 50);
        runs(due, "void m() { try { m(); } catch (e) { out(1); } finally { out(2); } }", 4, 0);
        PlainJava y = Due.of("void m() { try { for (;;) out(5); } finally { for (;;) ; } }");
        due.same("numbers within try", y.run(0, 20000), 5);
        due.same("ran(2)", y.ran(2), 200);
    }

    private static void latest(Due due) {
        String text = "void m() { int a = 1; while (a < 3) { a++; } f(); } void f() { ; l: for (int i = 0; i < 1; i++) ; }";
        PlainJava x = Due.of(text);
        String[] begun = {null, "int a", "while", null, "{ a++", "a++", null, "{ a++", "a++", null, "f();", null, "; l", "l: ", "for (", null, "; }", null};
        String now = null;
        for (int steps = 1; steps <= begun.length; steps++) {
            now = begun[steps - 1] == null ? now : begun[steps - 1];
            due.same("run(0, " + steps + ")", x.run(0, steps), steps < begun.length ? 3 : 0);
            due.same("ran(1)", x.ran(1), steps);
            int n = "; }".equals(now) ? 2 : 0;
            due.same("ran(4) behind " + steps, x.ran(4), now == null ? Due.NOTHING : Due.tokenAt(text, now, n));
        }
    }

    private static void refused(Due due) {
        PlainJava x = Due.of("int m() { return 3; }");
        due.same("ran(1) before", x.ran(1), Due.NOTHING);
        due.same("run(0, 5)", x.run(0, 5), 1);
        due.same("ran(1)", x.ran(1), 2);
        x.read();
        due.same("ran(1) behind read()", x.ran(1), Due.NOTHING);
        due.same("run(0, 5) of nothing", x.run(0, 5), PlainJava.BAD);
        Due.feed(x, "int m() { return true; }");
        due.same("read()", x.read(), 1);
        due.same("run(0, 5) with an ERROR", x.run(0, 5), PlainJava.NO);
        due.same("run(1, 5) with an ERROR", x.run(1, 5), PlainJava.BAD);
        due.same("ran(0)", x.ran(0), Due.NOTHING);
    }

    /** Values that wait in many calls at once, and chains as long as a text can hold. */
    private static void big(Due due) {
        StringBuilder exp = new StringBuilder("n < 2 ? 1 : ");
        for (int i = 0; i < 17; i++) {
            exp.append("1 | 1 ^ 1 & 1 + 1 * (");
        }
        exp.append("0 * m(n - 1)").append(Due.repeated(")", 17));
        PlainJava x = Due.of("int m(int n) { return " + exp + "; }");
        x.argument(0, 30);
        due.same("judge()", x.judge(), 0);
        long inner = 0;
        for (int i = 0; i < 17; i++) {
            inner = 1 | 1 ^ 1 & 1 + 1 * inner;
        }
        look(due, x, "values that wait", 20000, 1, inner);
        PlainJava y = Due.of("int m() { return 1" + Due.repeated(" + 1", 244) + "; }");
        look(due, y, "a chain of 245", 20000, 1, 245);
        PlainJava z = Due.of("boolean m() { return true" + Due.repeated(" && true", 240) + "; }");
        look(due, z, "a chain of 241", 20000, 1, 1);
    }
}
