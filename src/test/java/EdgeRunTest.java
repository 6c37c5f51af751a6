import java.util.ArrayList;
import java.util.List;

/** The boundaries that the document's 'Terms, 3 RUNS' and promises 16 to 20 name: at each, one before it and one behind it. */
final class EdgeRunTest {
    public static void main(String[] args) {
        Due due = new Due();
        argumentsAreCut(due);
        argumentsZeroToFive(due);
        inputsUpToForty(due);
        theInputBehindTheLastOne(due);
        arithmeticWrapsAround(due);
        oneOperandWrapsAround(due);
        countsAreCut(due);
        assignmentsAreCut(due);
        castsAreCut(due);
        byZero(due);
        methodsAndLimits(due);
        oneStepMoreThanTheLimit(due);
        whatIsAStep(due);
        theLatestS(due);
        callsWithinThirty(due);
        callsBehindOneAnother(due);
        the201stNumber(due);
        aFinallyTakesThePlace(due);
        twoFinallysTakeThePlace(due);
        catchesAndFinallys(due);
        noCatchAndNoFinally(due);
        operandsFromTheLeft(due);
        pastAConstantsExp(due);
        waysThroughAFinallyInTurn(due);
        asDeepAsCanBe(due);
        asManyValuesAsCanWait(due);
        valuesThatWaitStay(due);
        nothingIsLeftOfARun(due);
        whatRanTells(due);
        due.end();
    }

    private static PlainJava run(Due due, String text, int outcome, long value, long... told) {
        PlainJava x = Due.of(text);
        run(due, x, text, 20000, outcome, value, told);
        return x;
    }

    private static void run(Due due, PlainJava x, String text, int limit, int outcome, long value, long... told) {
        due.same("run(0, " + limit + ") of " + text, x.run(0, limit), outcome);
        due.same("ran(0) of " + text, x.ran(0), value);
        due.same("ran(2) of " + text, x.ran(2), told.length);
        for (int i = 0; i < told.length; i++) {
            due.same("ran(" + (10 + i) + ") of " + text, x.ran(10 + i), told[i]);
        }
        due.same("ran behind the last number of " + text, x.ran(10 + told.length), Due.NOTHING);
    }

    // ---- arguments and INPUTS

    /** "a method with arguments (of boolean: not 0; byte, char, int: cut to their bits)" */
    private static void argumentsAreCut(Due due) {
        long[] values = {0, 1, -1, 2, 127, 128, 129, 255, 256, 257, -127, -128, -129, -256, 32767, 32768, 65535, 65536, 65537, -65535, -65536, 2147483647L, 2147483648L, 4294967295L,
            4294967296L, 4294967297L, -2147483648L, -2147483649L, -4294967296L, 1L << 40, 1L << 63, Long.MAX_VALUE};
        for (int t = 0; t <= 4; t++) {
            String type = Due.TYPES[t];
            PlainJava x = Due.of(type + " m(" + type + " a) { " + (t == 0 ? "out(a ? 1 : 0);" : "out(a);") + " return a; }");
            for (long v : values) {
                long want = t == 0 ? v != 0 ? 1 : 0 : t == 1 ? (byte) v : t == 2 ? (char) v : t == 3 ? (int) v : v;
                due.same("argument(0, " + v + ")", x.argument(0, v), 1);
                due.same("run with " + v, x.run(0, 9), 1);
                due.same(type + " of " + v + " comes back", x.ran(0), want);
                due.same(type + " of " + v + " told", x.ran(10), want);
            }
        }
        // a boolean is one, whatever it was not 0 by
        PlainJava x = Due.of("void m(boolean a, boolean b) { out(a == b ? 1 : 0); out(a ^ true ? 1 : 0); out(a & b ? 1 : 0); out(!a ? 1 : 0); }");
        x.argument(0, 2);
        x.argument(1, -8);
        run(due, x, "booleans of 2 and -8", 99, 0, 0, 1, 0, 1, 0);
    }

    /** Promise 16: "Argument i (0 .. 5) is v: 1. BAD: another i." */
    private static void argumentsZeroToFive(Due due) {
        PlainJava x = Due.of("void m(long a, long b, long c, long d, long e, long f) { out(a); out(b); out(c); out(d); out(e); out(f); } void n() { } void o(int a) { out(a); }");
        run(due, x, "arguments 0", 99, 0, 0, 0, 0, 0, 0, 0, 0);
        for (int i = 0; i <= 5; i++) {
            due.same("argument(" + i + ", ..)", x.argument(i, 100 + i), 1);
        }
        for (int i : new int[] {-1, 6, 7, Integer.MIN_VALUE, Integer.MAX_VALUE}) {
            due.same("argument(" + i + ", ..)", x.argument(i, 7), PlainJava.BAD);
        }
        run(due, x, "six arguments", 99, 0, 0, 100, 101, 102, 103, 104, 105);
        run(due, x, "the same once more", 99, 0, 0, 100, 101, 102, 103, 104, 105);
        due.same("run(1, 1)", x.run(1, 1), 0);
        due.same("run(2, 9)", x.run(2, 9), 0);
        due.same("ran(10)", x.ran(10), 100);
        // a method that changes its param changes no argument
        PlainJava y = Due.of("int m(int a) { a += 5; return a; }");
        y.argument(0, 1);
        run(due, y, "once", 9, 1, 6);
        run(due, y, "twice", 9, 1, 6);
    }

    /** Promises 17, 18: "One INPUT more: how many there are. FULL: there are 40." "No INPUTS any more: how many there were." */
    private static void inputsUpToForty(Due due) {
        PlainJava x = Due.of("void m(int n) { for (int i = 0; i < n; i++) out(in()); }");
        due.same("drain() of none", x.drain(), 0);
        for (int i = 1; i <= 39; i++) {
            due.same("input " + i, x.input(1000 + i), i);
        }
        due.same("told(3)", x.told(3), 39);
        due.same("input 40", x.input(Integer.MIN_VALUE), 40);
        due.same("input 41", x.input(5), PlainJava.FULL);
        due.same("input 42", x.input(5), PlainJava.FULL);
        due.same("told(3)", x.told(3), 40);
        x.argument(0, 41);
        due.same("run", x.run(0, 20000), 0);
        for (int i = 1; i <= 39; i++) {
            due.same("INPUT " + i, x.ran(9 + i), 1000 + i);
        }
        due.same("INPUT 40", x.ran(49), Integer.MIN_VALUE);
        due.same("behind it", x.ran(50), 0);
        due.same("taken", x.ran(3), 41);
        due.same("told(3)", x.told(3), 40);
        due.same("drain()", x.drain(), 40);
        due.same("told(3)", x.told(3), 0);
        due.same("drain()", x.drain(), 0);
        due.same("input", x.input(Integer.MAX_VALUE), 1);
        due.same("run", x.run(0, 20000), 0);
        due.same("the only one", x.ran(10), Integer.MAX_VALUE);
        due.same("behind it", x.ran(11), 0);
        due.same("drain()", x.drain(), 1);
    }

    /** "in is the next INPUT, 0 behind the last one" "INPUTS taken (those behind the last one, too)" */
    private static void theInputBehindTheLastOne(Due due) {
        for (int inputs = 0; inputs <= 3; inputs++) {
            PlainJava x = Due.of("void m() { out(in()); out(in()); } void n() { } int o() { return in(); }");
            for (int i = 0; i < inputs; i++) {
                x.input(7 + i);
            }
            for (int round = 0; round < 2; round++) {
                run(due, x, "two of " + inputs + " INPUTS", 99, 0, 0, inputs > 0 ? 7 : 0, inputs > 1 ? 8 : 0);
                due.same("taken", x.ran(3), 2);
                due.same("told(3)", x.told(3), inputs);
            }
            due.same("run of one that takes none", x.run(1, 1), 0);
            due.same("taken", x.ran(3), 0);
            due.same("run of one that takes one", x.run(2, 9), 1);
            due.same("the first one", x.ran(0), inputs > 0 ? 7 : 0);
            due.same("taken", x.ran(3), 1);
        }
        // what comes behind a run is there for the next one
        PlainJava x = Due.of("void m() { out(in()); }");
        run(due, x, "no INPUT", 9, 0, 0, 0);
        x.input(5);
        due.same("ran(10) is of the run before", x.ran(10), 0);
        run(due, x, "one INPUT", 9, 0, 0, 5);
    }

    // ---- arithmetic

    private static final long[] INTS = {0, 1, -1, 2, -7, 31, 32, 33, 65535, 65536, Integer.MAX_VALUE, Integer.MIN_VALUE};
    private static final long[] LONGS = {0, 1, -1, -7, 31, 32, 63, 64, 65, 4294967296L, Long.MAX_VALUE, Long.MIN_VALUE};
    private static final String[] NUMBERS = {"+", "-", "*", "/", "%", "<<", ">>", ">>>", "&", "|", "^"};
    private static final String[] COMPARED = {"<", "<=", ">", ">=", "==", "!="};

    private static void arithmeticWrapsAround(Due due) {
        for (String sign : NUMBERS) {
            for (int isLong = 0; isLong < 2; isLong++) {
                String type = isLong == 1 ? "long" : "int";
                long[] values = isLong == 1 ? LONGS : INTS;
                for (long a : values) {
                    // a new object for each row: it has 512 calls
                    PlainJava x = Due.of(type + " m(" + type + " a, " + type + " b) { return a " + sign + " b; } " + type + " n(" + type + " a, " + type + " b) { a " + sign + "= b; return a; }");
                    x.argument(0, a);
                    for (long b : values) {
                        Long want = Due.worked(sign, isLong == 1, a, b);
                        x.argument(1, b);
                        for (int k = 0; k < 2; k++) {
                            due.same("run of " + a + sign + b, x.run(k, 9), want == null ? 2 : 1);
                            due.same(type + ": " + a + sign + b, x.ran(0), want == null ? -1 : want);
                        }
                    }
                }
            }
        }
        for (String sign : COMPARED) {
            PlainJava x = Due.of("boolean m(long a, long b) { return a " + sign + " b; } boolean n(int a, long b) { return a " + sign + " b; }");
            for (long a : new long[] {-1, 0, 1, Integer.MAX_VALUE, Integer.MIN_VALUE}) {
                for (long b : new long[] {-1, 0, 1, 2147483648L, Long.MIN_VALUE}) {
                    x.argument(0, a);
                    x.argument(1, b);
                    due.same("run", x.run(0, 9), 1);
                    due.same(a + sign + b, x.ran(0), Due.worked(sign, true, a, b));
                    due.same("run", x.run(1, 9), 1);
                    due.same("int " + a + sign + b, x.ran(0), Due.worked(sign, true, a, b));
                }
            }
        }
        // an int and a long: of both; shifts: of the left one alone
        PlainJava x = Due.of("void m(int a, long b) { out(a + b); out(b - a); out(a * b); out(a & b); out(a << b); out(a >> b); out(a >>> b); out(b << a); }");
        for (long a : new long[] {-5, Integer.MAX_VALUE, Integer.MIN_VALUE}) {
            for (long b : new long[] {33, 4294967297L, -1}) {
                x.argument(0, a);
                x.argument(1, b);
                int i = (int) a;
                run(due, x, a + " and " + b, 99, 0, 0, a + b, b - a, a * b, a & b, i << b, i >> b, i >>> b, b << i);
            }
        }
    }

    private static void oneOperandWrapsAround(Due due) {
        PlainJava x = Due.of("void m(byte a, char b, int c, long d) { out(-a); out(~a); out(+a); out(-b); out(~b); out(-c); out(~c); out(-d); out(~d); }");
        for (long v : new long[] {0, 1, -1, -128, 65535, Integer.MIN_VALUE, Integer.MAX_VALUE, Long.MIN_VALUE, Long.MAX_VALUE}) {
            for (int i = 0; i < 4; i++) {
                x.argument(i, v);
            }
            byte a = (byte) v;
            char b = (char) v;
            int c = (int) v;
            run(due, x, "one operand, of " + v, 99, 0, 0, -a, ~a, +a, -b, ~b, -c, ~c, -v, ~v);
        }
    }

    /** "++ -- and the assignments with an operator cast what comes back to the variable's type" */
    private static void countsAreCut(Due due) {
        long[][] edges = {{}, {-128, 127, 0}, {0, 65535, 1}, {Integer.MIN_VALUE, Integer.MAX_VALUE, 0}, {Long.MIN_VALUE, Long.MAX_VALUE, 0}};
        for (int t = 1; t <= 4; t++) {
            PlainJava x = Due.of("void m(" + Due.TYPES[t] + " a) { out(a++); out(a); out(a--); out(a); out(a--); out(a); out(++a); out(a); out(++a); out(--a); out(--a); }");
            for (long v : edges[t]) {
                long more = cut(t, v + 1);
                long less = cut(t, v - 1);
                x.argument(0, v);
                run(due, x, Due.TYPES[t] + " " + v, 99, 0, 0, v, more, more, v, v, less, v, v, more, v, less);
            }
        }
    }

    private static long cut(int type, long v) {
        return type == 1 ? (byte) v : type == 2 ? (char) v : type == 3 ? (int) v : v;
    }

    private static void assignmentsAreCut(Due due) {
        for (int t = 1; t <= 4; t++) {
            for (String sign : NUMBERS) {
                PlainJava x = Due.of("void m(" + Due.TYPES[t] + " a, long b, int c) { " + Due.TYPES[t] + " d = a; out(a " + sign + "= b); out(a); out(d " + sign + "= c); out(d); }");
                for (long a : new long[] {1, -1, 100, 40000}) {
                    for (long b : new long[] {1, 200, -3, 70000, 33}) {
                        x.argument(0, a);
                        x.argument(1, b);
                        x.argument(2, b);
                        long from = cut(t, a);
                        boolean isShift = sign.length() > 1;
                        long byLong = cut(t, Due.worked(sign, !isShift || t == 4, from, b));
                        long byInt = cut(t, Due.worked(sign, t == 4, from, b));
                        run(due, x, Due.TYPES[t] + " " + a + " " + sign + "= " + b, 99, 0, 0, byLong, byLong, byInt, byInt);
                    }
                }
            }
        }
        PlainJava x = Due.of("void m(boolean a, boolean b) { boolean c = a; boolean d = a; out((c &= b) ? 1 : 0); out((d |= b) ? 1 : 0); out((a ^= b) ? 1 : 0); out(c == (c & b) ? 1 : 0); }");
        for (int a = 0; a < 2; a++) {
            for (int b = 0; b < 2; b++) {
                x.argument(0, a);
                x.argument(1, b);
                run(due, x, "booleans " + a + ", " + b, 99, 0, 0, a & b, a | b, a ^ b, 1);
            }
        }
    }

    private static void castsAreCut(Due due) {
        PlainJava x = Due.of("void m(long a) { out((byte) a); out((char) a); out((int) a); out((long) a); out((char) (byte) a); out((byte) (char) a); out((int) (char) a); }");
        for (long v : new long[] {0, 127, 128, 255, 256, -1, -128, -129, 65535, 65536, 2147483647L, 2147483648L, 4294967295L, 4294967296L, Long.MIN_VALUE, Long.MAX_VALUE}) {
            x.argument(0, v);
            run(due, x, "casts of " + v, 99, 0, 0, (byte) v, (char) v, (int) v, v, (char) (byte) v, (byte) (char) v, (char) v);
        }
        // what WIDENS keeps its value
        run(due, "void m() { byte a = -1; char b = 65535; int c = a; long d = a; long e = b; c += b; out(c); out(d); out(e); f(a, b); } void f(int a, long b) { out(a); out(b); }",
            0, 0, 65534, -1, 65535, -1, 65535);
        run(due, "long m() { return f(); } byte f() { return -128; }", 1, -128);
        run(due, "long m(boolean o) { byte b = -3; return o ? 1L : b; }", 1, -3);
    }

    /** "/ and % by 0 throw -1" */
    private static void byZero(Due due) {
        for (String type : new String[] {"byte", "char", "int", "long"}) {
            for (String sign : new String[] {"/", "%"}) {
                PlainJava x = Due.of("void m(" + type + " a, " + type + " b) { try { out(1); out(a " + sign + " b); out(2); } catch (e) { out(e); } try { out(a " + sign
                    + "= b); } catch (e) { out(e); } out(a); a " + sign + "= b; }");
                x.argument(0, 6);
                run(due, x, type + " 6 " + sign + " 0", 99, 2, -1, 1, -1, -1, 6);
                x.argument(0, 0);
                run(due, x, type + " 0 " + sign + " 0", 99, 2, -1, 1, -1, -1, 0);
                x.argument(1, 6);
                run(due, x, type + " 0 " + sign + " 6", 99, 0, 0, 1, 0, 2, 0, 0);
                x.argument(0, 7);
                int worked = sign.equals("/") ? 1 : 1;
                run(due, x, type + " 7 " + sign + " 6", 99, 0, 0, 1, worked, 2, worked, worked);
            }
        }
        run(due, "void m() { out(5 / 0); }", 2, -1);
        run(due, "void m() { out(5 % 0L); }", 2, -1);
        run(due, "void m() { final int a = 0; out(5 / a); }", 2, -1);
        run(due, "void m() { int a = 1 / 0; out(1); }", 2, -1);
        run(due, "void m() { if (true || 1 / 0 == 1) out(1); if (false && 1 % 0 == 1) out(2); out(true ? 3 : 1 / 0); }", 0, 0, 1, 3);
        run(due, "void m() { out((byte) 256 == 0 ? 1 : 2); out(1 / ((byte) 256 + in())); }", 2, -1, 1);
        // both operands are worked out first
        run(due, "void m() { int a = t(1) / t(0); } int t(int x) { out(x); return x; }", 2, -1, 1, 0);
        run(due, "void m() { int a = 1; try { a /= (a = 0) + t(0); } catch (e) { out(a); } } int t(int x) { out(x); return x; }", 0, 0, 0, 0);
        for (String s : new String[] {"while (1 / in() > 0) ;", "do ; while (1 / in() > 0);", "for (; 1 / in() > 0; ) ;", "for (int i = 1 / in(); ; ) ;", "for (; ; in(), out(1 / in())) ;", "if (1 / in() > 0) ;",
            "switch (1 / in()) { }", "throw 1 / in();", "f(1 / in());", "in(); out(1 / in());"}) {
            run(due, "void m() { " + s + " } void f(int a) { }", 2, -1);
            run(due, "void m() { try { " + s + " } catch (e) { out(e); } out(7); } void f(int a) { }", 0, 0, -1, 7);
        }
        run(due, "int m() { return 1 / in(); }", 2, -1);
    }

    // ---- STEPS

    /** Promise 19: "with at most so many STEPS (1 .. 20000) .. BAD: no such method, limit (looked at first)" */
    private static void methodsAndLimits(Due due) {
        PlainJava x = Due.of("void m() { } int n() { return 5; } void o() { while (true) ; }");
        for (int limit : new int[] {0, -1, 20001, Integer.MIN_VALUE, Integer.MAX_VALUE}) {
            for (int k = -1; k <= 3; k++) {
                due.same("run(" + k + ", " + limit + ")", x.run(k, limit), PlainJava.BAD);
            }
        }
        for (int k : new int[] {-1, 3, 4, 10, 11, 100, Integer.MIN_VALUE, Integer.MAX_VALUE}) {
            due.same("run(" + k + ", 1)", x.run(k, 1), PlainJava.BAD);
            due.same("run(" + k + ", 20000)", x.run(k, 20000), PlainJava.BAD);
        }
        due.same("none of them ran", x.ran(1), Due.NOTHING);
        due.same("run(0, 1)", x.run(0, 1), 0);
        due.same("ran(1)", x.ran(1), 1);
        due.same("run(1, 1)", x.run(1, 1), 3);
        due.same("ran(0)", x.ran(0), 0);
        due.same("run(1, 2)", x.run(1, 2), 1);
        due.same("ran(0)", x.ran(0), 5);
        due.same("run(0, 20000)", x.run(0, 20000), 0);
        due.same("ran(0)", x.ran(0), 0);
        for (int limit : new int[] {1, 2, 3, 4, 5, 19999, 20000}) {
            due.same("run(2, " + limit + ")", x.run(2, limit), 3);
            due.same("ran(1)", x.ran(1), limit);
        }
    }

    /** Every limit up to what a run needs, and one more: "A STEP that is one more than the limit .. end the run at once". */
    private static void sweep(Due due, String text, int steps, int outcome, long value) {
        for (int limit = 1; limit <= steps + 1; limit++) {
            PlainJava x = Due.of(text);
            boolean ends = limit >= steps;
            due.same("run(0, " + limit + ") of " + text, x.run(0, limit), ends ? outcome : 3);
            due.same("ran(0) of " + limit + " STEPS of " + text, x.ran(0), ends ? value : 0);
            due.same("ran(1) of " + limit + " STEPS of " + text, x.ran(1), Math.min(limit, steps));
        }
    }

    private static void oneStepMoreThanTheLimit(Due due) {
        sweep(due, "void m() { }", 1, 0, 0);
        sweep(due, "int m() { return 7; }", 2, 1, 7);
        sweep(due, "void m() { throw 7; }", 2, 2, 7);
        sweep(due, "void m() { out(1); out(in()); }", 6, 0, 0);
        sweep(due, "int m() { return f(f(in())); } int f(int a) { return a + 1; }", 7, 1, 2);
        sweep(due, "int m() { int a = 0; while (a < 3) a++; return a; }", 1 + 1 + 1 + 4 + 3 + 1, 1, 3);
        sweep(due, "int m() { int a = 0; do a++; while (a < 3); return a; }", 1 + 1 + 1 + 3 + 3 + 1, 1, 3);
        sweep(due, "int m() { int b = 0; for (int a = 0; a < 3; a++) b += a; return b; }", 1 + 1 + 1 + 4 + 3 + 1, 1, 3);
        sweep(due, "int m() { int a = 0; for (; ; ) if (a++ == 2) return a; }", 1 + 1 + 1 + 3 + 3 + 1, 1, 3);
        sweep(due, "int m() { try { throw 4; } catch (e) { return e; } finally { ; } }", 1 + 1 + 1 + 1 + 1, 1, 4);
        sweep(due, "void m() { try { out(1 / in()); } finally { out(2); } }", 1 + 1 + 1 + 1 + 2, 2, -1);
        sweep(due, "void m() { l: { { } break l; } switch (1) { case 1: ; default: { } } }", 1 + 1 + 1 + 1 + 1 + 1 + 1 + 1, 0, 0);
        // at the greatest limit
        PlainJava x = Due.of("void m(int n) { while (n > 0) n--; }");
        x.argument(0, 9998);
        due.same("19999 STEPS of 20000", x.run(0, 20000), 0);
        due.same("ran(1)", x.ran(1), 19999);
        due.same("19999 STEPS of 19999", x.run(0, 19999), 0);
        due.same("19999 STEPS of 19998", x.run(0, 19998), 3);
        due.same("ran(1)", x.ran(1), 19998);
        PlainJava y = Due.of("void m(int n) { ; while (n > 0) n--; }");
        y.argument(0, 9998);
        due.same("20000 STEPS of 20000", y.run(0, 20000), 0);
        due.same("ran(1)", y.ran(1), 20000);
        y.argument(0, 9999);
        due.same("20002 STEPS of 20000", y.run(0, 20000), 3);
        due.same("ran(1)", y.ran(1), 20000);
        PlainJava z = Due.of("void m(int n) { ; ; while (n > 0) n--; }");
        z.argument(0, 9998);
        due.same("20001 STEPS of 20000", z.run(0, 20000), 3);
        due.same("ran(1)", z.ran(1), 20000);
    }

    private static void steps(Due due, String row, int steps) {
        String text = "void m() { " + row + " } int f(int a) { return a; } void g() { }";
        PlainJava x = Due.of(text);
        x.run(0, 20000);
        due.same("STEPS of " + row, x.ran(1), 1 + steps);
    }

    /** "each S and told that begins (blocks of methods, try, catch, finally are none), each condition of while, do, for .., each call" */
    private static void whatIsAStep(Due due) {
        Object[][] rows = {{"", 0}, {";", 1}, {"{ }", 1}, {"{ ; }", 2}, {"int a;", 1}, {"int a = 1;", 1}, {"final int a = 1;", 1}, {"int a; a = 1;", 2}, {"l: ;", 2}, {"l: k: ;", 3},
            {"if (true) ;", 2}, {"if (false) ;", 1}, {"if (true) ; else ;", 2}, {"if (false) ; else { ; }", 3}, {"while (in() > 0) ;", 3}, {"while (true) break;", 3},
            {"do ; while (in() > 0);", 4}, {"do break; while (true);", 2}, {"for (; in() > 0; ) ;", 3}, {"for (; ; ) break;", 3}, {"for (int i = 0; i < 0; i++) ;", 2},
            {"for (int i = 0; i < 1; i++) ;", 4}, {"int i; for (i = 0, in(); i < 1; i++, in()) ;", 7}, {"switch (1) { }", 1}, {"switch (1) { case 1: }", 1}, {"switch (1) { case 1: ; }", 2},
            {"switch (1) { case 1: int a; break; }", 3}, {"switch (1) { case 2: ; default: ; }", 2}, {"try { } catch (e) { }", 1}, {"try { } finally { }", 1}, {"try { ; } finally { ; }", 3},
            {"try { throw 1; } catch (e) { }", 2}, {"try { throw 1; } catch (e) { ; } finally { ; }", 4}, {"try { { } } finally { { } }", 3}, {"return;", 1}, {"throw 1;", 1},
            {"in();", 2}, {"out(1);", 2}, {"out(in());", 3}, {"f(1);", 3}, {"f(f(1));", 5}, {"g();", 2}, {"int a = f(1) + f(2);", 5}, {"if (f(1) > 0) ;", 4}, {"boolean a = false && f(1) > 0;", 1},
            {"boolean a = true || f(1) > 0;", 1}, {"int a = true ? 1 : f(1);", 1}, {"l: while (true) { break l; }", 5}, {"l: { break l; }", 3}, {"out(1 / in());", 2}, {"f(1 / in());", 2},
            {"while (f(0) > 0) ;", 4}, {"int i = 0; while (i < 2) { i++; continue; }", 11}, {"int i = 0; do { i++; continue; } while (i < 2);", 10}};
        for (Object[] row : rows) {
            steps(due, (String) row[0], (Integer) row[1]);
        }
    }

    /**
     * Promise 20, 4: "the token at which the S or told begins that was begun latest (its STEP was done)". Every S of the text is
     * marked ^ and a letter; the order tells the letters as their S's begin, and a dot for each other STEP.
     */
    private static void latest(Due due, String marked, String order) {
        StringBuilder text = new StringBuilder();
        int[] tokens = new int[128];
        for (int i = 0; i < marked.length(); i++) {
            if (marked.charAt(i) == '^') {
                tokens[marked.charAt(i + 1)] = text.length();
                i++;
            } else {
                text.append(marked.charAt(i));
            }
        }
        List<int[]> all = Due.tokens(text.toString());
        long want = Due.NOTHING;
        PlainJava x = Due.of(text.toString());
        due.same("judge() of " + text, x.judge(), 0);
        for (int limit = 1; limit <= order.length(); limit++) {
            char c = order.charAt(limit - 1);
            for (int i = 0; c != '.' && i < all.size(); i++) {
                want = all.get(i)[0] == tokens[c] ? i : want;
            }
            due.same("run(0, " + limit + ") of " + text, x.run(0, limit) == 3 ? 1 : 0, limit < order.length() ? 1 : 0);
            due.same("ran(1) of " + text, x.ran(1), limit);
            due.same("ran(4) behind " + limit + " of " + text, x.ran(4), want);
        }
    }

    private static void theLatestS(Due due) {
        latest(due, "void m() { }", ".");
        latest(due, "void m() { ^a; ^bint a; ^cint b = 1; ^da = b; ^e{ ^f; } }", ".abcdef");
        latest(due, "void m() { ^aif (in() > 0) ^b; else ^c; ^dif (in() == 0) ^e{ } }", ".a.cd.e");
        latest(due, "void m() { ^aint i = 0; ^bwhile (i < 2) ^ci++; ^d; }", ".ab.c.c.d");
        latest(due, "void m() { ^aint i = 0; ^bdo ^ci++; while (i < 2); ^d; }", ".abc.c.d");
        latest(due, "void m() { ^afor (int i = 0; i < 2; i++) ^b{ ^c; } ^dfor (; ; ) ^ebreak; ^f; }", ".a.bc.bc.d.ef");
        latest(due, "void m() { ^al: ^bfor (; ; ) ^cfor (; ; ) ^dbreak l; ^e; }", ".ab.c.de");
        latest(due, "void m() { ^aswitch (in()) { case 1: ^b; case 0: ^c; default: ^dint e; ^ebreak; } ^f; }", ".a.cdef");
        latest(due, "void m() { ^atry { ^bthrow 1; } catch (e) { ^c; } finally { ^d; } ^e; }", ".abcde");
        latest(due, "void m() { ^atry { ^bout(1 / in()); } finally { ^c; } }", ".ab.c");
        latest(due, "int m() { ^aint b = f(f(1)); ^breturn b; } int f(int a) { ^creturn a; }", ".a.c.cb");
        latest(due, "void m() { ^af(0); ^bout(1); } void f(int a) { ^cif (a < 1) ^df(a + 1); ^e; }", ".a.cd.ceeb.");
        latest(due, "int m() { ^atry { ^breturn 1; } finally { ^c; } }", ".abc");
        latest(due, "void m() { ^aint i = 0; ^bl: ^cdo ^d{ ^eif (i++ == 0) ^fcontinue l; ^gbreak; } while (true); }", ".abcdef.deg");
        // the 201st number, the 31st call: the S they stand in had begun
        PlainJava x = Due.of("void m() { for (; ; ) out(1); }");
        due.same("run", x.run(0, 20000), 5);
        due.same("ran(4)", x.ran(4), 10);
        PlainJava y = Due.of("void m() { ; m(); }");
        due.same("run", y.run(0, 20000), 4);
        due.same("ran(4)", y.ran(4), 6);
        // a run that begins no S tells none, though an earlier one did
        PlainJava z = Due.of("void m() { ; } void n() { }");
        due.same("run", z.run(0, 2), 0);
        due.same("ran(4)", z.ran(4), 5);
        due.same("run", z.run(0, 1), 3);
        due.same("ran(4)", z.ran(4), Due.NOTHING);
        due.same("run", z.run(1, 1), 0);
        due.same("ran(4)", z.ran(4), Due.NOTHING);
    }

    // ---- calls, numbers

    /** "a call within 30 others (the first one counts) .. end the run at once" */
    private static void callsWithinThirty(Due due) {
        PlainJava x = Due.of("int m(int n) { return n == 1 ? 1 : 1 + m(n - 1); }");
        for (int n = 1; n <= 32; n++) {
            x.argument(0, n);
            run(due, x, n + " calls within one another", 20000, n <= 30 ? 1 : 4, n <= 30 ? n : 0);
        }
        PlainJava y = Due.of("int m(int n) { int r = 0; if (n > 1) r = k(n - 1); out(n); return r + 1; } int k(int n) { int r = 0; if (n > 1) r = m(n - 1); out(-n); return r + 1; }");
        for (int n : new int[] {28, 29, 31, 32}) {
            y.argument(0, n);
            due.same("run with " + n, y.run(0, 20000), n < 30 ? 1 : 4);
            due.same("ran(0)", y.ran(0), n < 30 ? n : 0);
            due.same("ran(2)", y.ran(2), n < 30 ? n : 0);
        }
        // arguments are worked out before
        PlainJava w = Due.of("void m(int n) { if (n > 1) m(n - 1); else f(f(1)); } int f(int a) { return a; }");
        w.argument(0, 29);
        due.same("f(f(1)) within 29", w.run(0, 20000), 0);
        w.argument(0, 30);
        due.same("f(f(1)) within 30", w.run(0, 20000), 4);
    }

    private static void callsBehindOneAnother(Due due) {
        // those that have ended are no others, however they did
        run(due, "int m() { int s = 0; for (int i = 0; i < 50; i++) s += d(29); return s; } int d(int n) { return n == 1 ? 1 : 1 + d(n - 1); }", 1, 50 * 29);
        run(due, "int m() { int s = 0; for (int i = 0; i < 50; i++) try { s += d(29); } catch (e) { s += e; } return s; } int d(int n) { if (n == 1) throw 3; return d(n - 1); }", 1, 150);
        run(due, "int m() { int s = 0; for (int i = 0; i < 50; i++) try { d(28); } catch (e) { s += e; } return s; } void d(int n) { if (n == 1) n = 1 / in(); d(n - 1); }", 1, -50);
        run(due, "int m() { int s = 0; for (int i = 0; i < 40; i++) s += d(29); return s; } int d(int n) { try { if (n == 1) throw 3; return d(n - 1); } finally { if (n == 20) return 7; } }", 1, 280);
        run(due, "int m() { return d(29) + d(29) + d(d(29)); } int d(int n) { return n <= 1 ? 29 : d(n - 1); }", 1, 87);
        // each call has variables of its own
        run(due, "void m() { d(3); } void d(int n) { int a = n * 10; if (n > 1) d(n - 1); out(a + n); int b; b = a; out(b); }", 0, 0, 11, 10, 22, 20, 33, 30);
        run(due, "void m() { int a = 1; f(a); out(a); g(); out(a); } void f(int a) { a = 5; int b = 6; out(a + b); } void g() { int a = 9; int b = a; out(b); }", 0, 0, 11, 1, 9, 1);
    }

    /** "the 201st number told" */
    private static void the201stNumber(Due due) {
        PlainJava x = Due.of("int m(int n) { for (int i = 0; i < n; i++) out(i + 1000); return 5; }");
        for (int n = 199; n <= 202; n++) {
            x.argument(0, n);
            due.same(n + " numbers", x.run(0, 20000), n <= 200 ? 1 : 5);
            due.same("ran(0)", x.ran(0), n <= 200 ? 5 : 0);
            due.same("ran(2)", x.ran(2), Math.min(n, 200));
            due.same("the first", x.ran(10), 1000);
            due.same("the 199th", x.ran(208), 1198);
            due.same("the 200th", x.ran(209), n >= 200 ? 1199 : Due.NOTHING);
            due.same("the 201st", x.ran(210), Due.NOTHING);
        }
        // a run begins with none
        x.argument(0, 2);
        due.same("2 numbers", x.run(0, 20000), 1);
        due.same("ran(2)", x.ran(2), 2);
        due.same("the second", x.ran(11), 1001);
        due.same("the third", x.ran(12), Due.NOTHING);
        for (long v : new long[] {0, -1, Long.MIN_VALUE, Long.MAX_VALUE, Due.NOTHING}) {
            PlainJava y = Due.of("void m(long a) { out(a); }");
            y.argument(0, v);
            run(due, y, "out of " + v, 9, 0, 0, v);
        }
    }

    // ---- finally

    private static final class Thrown extends RuntimeException {
        private static final long serialVersionUID = 1L;
        final int value;

        Thrown(int value) {
            this.value = value;
        }
    }

    private static final String LEAVES = "if (# == 1) break; if (# == 2) continue; if (# == 3) return @ + i; if (# == 4) throw @ + 10 + i;";

    private static String leaves(String way, int number) {
        return LEAVES.replace("#", way).replace("@", "" + number);
    }

    @SuppressWarnings("finally")
    private static int likewise(int w, int f, List<Long> told) {
        for (int i = 0; i < 2; i++) {
            try {
                told.add((long) i);
                if (w == 1) break;
                if (w == 2) continue;
                if (w == 3) return 100 + i;
                if (w == 4) throw new Thrown(110 + i);
                told.add(10L + i);
            } finally {
                told.add(20L + i);
                if (f == 1) break;
                if (f == 2) continue;
                if (f == 3) return 200 + i;
                if (f == 4) throw new Thrown(210 + i);
            }
            told.add(30L + i);
        }
        told.add(40L);
        return 50;
    }

    private static void compared(Due due, PlainJava x, String what, int outcome, long value, List<Long> told) {
        long[] numbers = new long[told.size()];
        for (int i = 0; i < numbers.length; i++) {
            numbers[i] = told.get(i);
        }
        run(due, x, what, 20000, outcome, value, numbers);
    }

    /** "a finally that ends by break, continue, return, throw takes the place of what was before it": each before each. */
    private static void aFinallyTakesThePlace(Due due) {
        String text = "int m(int w, int f) { for (int i = 0; i < 2; i++) { try { out(i); " + leaves("w", 100) + " out(10 + i); } finally { out(20 + i); " + leaves("f", 200)
            + " } out(30 + i); } out(40); return 50; }";
        for (int w = 0; w <= 4; w++) {
            for (int f = 0; f <= 4; f++) {
                PlainJava x = Due.of(text);
                x.argument(0, w);
                x.argument(1, f);
                List<Long> told = new ArrayList<>();
                try {
                    int value = likewise(w, f, told);
                    compared(due, x, w + " before " + f, 1, value, told);
                } catch (Thrown e) {
                    compared(due, x, w + " before " + f, 2, e.value, told);
                }
            }
        }
    }

    @SuppressWarnings("finally")
    private static int likewise(int w, int f, int g, List<Long> told) {
        for (int i = 0; i < 2; i++) {
            try {
                try {
                    told.add((long) i);
                    if (w == 1) break;
                    if (w == 2) continue;
                    if (w == 3) return 100 + i;
                    if (w == 4) throw new Thrown(110 + i);
                } finally {
                    told.add(20L + i);
                    if (f == 1) break;
                    if (f == 2) continue;
                    if (f == 3) return 200 + i;
                    if (f == 4) throw new Thrown(210 + i);
                }
            } finally {
                told.add(30L + i);
                if (g == 1) break;
                if (g == 2) continue;
                if (g == 3) return 300 + i;
                if (g == 4) throw new Thrown(310 + i);
            }
        }
        return 50;
    }

    private static void twoFinallysTakeThePlace(Due due) {
        String text = "int m(int w, int f, int g) { for (int i = 0; i < 2; i++) { try { try { out(i); " + leaves("w", 100) + " } finally { out(20 + i); " + leaves("f", 200)
            + " } } finally { out(30 + i); " + leaves("g", 300) + " } } return 50; }";
        for (int w = 0; w <= 4; w++) {
            for (int f = 0; f <= 4; f++) {
                for (int g = 0; g <= 4; g++) {
                    PlainJava x = Due.of(text);
                    x.argument(0, w);
                    x.argument(1, f);
                    x.argument(2, g);
                    List<Long> told = new ArrayList<>();
                    try {
                        int value = likewise(w, f, g, told);
                        compared(due, x, w + ", " + f + ", " + g, 1, value, told);
                    } catch (Thrown e) {
                        compared(due, x, w + ", " + f + ", " + g, 2, e.value, told);
                    }
                }
            }
        }
    }

    @SuppressWarnings("finally")
    private static int likewiseCaught(int w, int c, int f, List<Long> told) {
        for (int i = 0; i < 2; i++) {
            try {
                told.add((long) i);
                if (w == 1) break;
                if (w == 2) continue;
                if (w == 3) return 100 + i;
                if (w == 4) throw new Thrown(110 + i);
            } catch (Thrown e) {
                told.add((long) e.value);
                if (c == 1) break;
                if (c == 2) continue;
                if (c == 3) return 200 + i;
                if (c == 4) throw new Thrown(210 + i);
            } finally {
                told.add(30L + i);
                if (f == 1) break;
                if (f == 2) continue;
                if (f == 3) return 300 + i;
                if (f == 4) throw new Thrown(310 + i);
            }
            told.add(40L + i);
        }
        return 50;
    }

    private static void catchesAndFinallys(Due due) {
        String text = "int m(int w, int c, int f) { for (int i = 0; i < 2; i++) { try { out(i); " + leaves("w", 100) + " } catch (e) { out(e); " + leaves("c", 200)
            + " } finally { out(30 + i); " + leaves("f", 300) + " } out(40 + i); } return 50; }";
        for (int w = 0; w <= 4; w++) {
            for (int c = 0; c <= 4; c++) {
                for (int f = 0; f <= 4; f++) {
                    PlainJava x = Due.of(text);
                    x.argument(0, w);
                    x.argument(1, c);
                    x.argument(2, f);
                    List<Long> told = new ArrayList<>();
                    try {
                        int value = likewiseCaught(w, c, f, told);
                        compared(due, x, w + ", " + c + ", " + f, 1, value, told);
                    } catch (Thrown e) {
                        compared(due, x, w + ", " + c + ", " + f, 2, e.value, told);
                    }
                }
            }
        }
        // a value that waits is the one that was worked out; a finally in a finally does not touch it
        run(due, "int m() { int a = 1; try { return a++; } finally { a = 9; out(a); } }", 1, 1, 9);
        run(due, "int m() { try { return f(1); } finally { out(f(2)); } } int f(int a) { try { return a; } finally { out(a * 10); } }", 1, 1, 10, 20, 2);
        run(due, "int m() { try { return 1; } finally { try { throw 2; } catch (e) { out(e); } } }", 1, 1, 2);
        run(due, "int m() { try { throw 1; } finally { try { ; } finally { out(5); } } }", 2, 1, 5);
        run(due, "int m() { try { throw 1; } finally { l: { try { break l; } finally { out(5); } } } }", 2, 1, 5);
        run(due, "int m() { try { return 1; } finally { for (int i = 0; i < 2; i++) try { continue; } finally { out(i); } } }", 1, 1, 0, 1);
        run(due, "void m() { for (int i = 0; i < 3; i++) try { if (i == 1) throw 7; } catch (e) { out(e); } finally { out(i); } }", 0, 0, 0, 7, 1, 2);
        run(due, "void m() { try { f(3); } catch (e) { out(e); } } void f(int a) { try { if (a == 0) throw 9; f(a - 1); } finally { out(a); } }", 0, 0, 0, 1, 2, 3, 9);
        run(due, "void m() { try { f(3); } catch (e) { out(e); } } void f(int a) { try { if (a == 0) throw 9; f(a - 1); } catch (e) { out(a); throw e + 1; } }", 0, 0, 0, 1, 2, 3, 13);
        run(due, "int m() { int a = 0; while (true) { try { try { a++; if (a < 3) continue; break; } finally { out(a); } } finally { out(-a); } } return a; }", 1, 3, 1, -1, 2, -2, 3, -3);
    }

    /** ".. end the run at once (no catch, no finally)" */
    private static void noCatchAndNoFinally(Due due) {
        String text = "void m() { try { try { #; } catch (e) { out(7); } finally { out(8); } } catch (e) { out(9); } finally { out(10); } out(11); }";
        PlainJava x = Due.of(text.replace("#;", "while (true) ;"));
        for (int limit : new int[] {4, 5, 100, 20000}) {
            run(due, x, "STEPS, " + limit, limit, 3, 0);
            due.same("ran(1)", x.ran(1), limit);
        }
        PlainJava y = Due.of(text.replace("#;", "m();"));
        run(due, y, "calls", 20000, 4, 0);
        PlainJava z = Due.of(text.replace("#;", "for (; ; ) out(1);"));
        due.same("numbers", z.run(0, 20000), 5);
        due.same("ran(2)", z.ran(2), 200);
        due.same("the last of them", z.ran(209), 1);
        due.same("ran(0)", z.ran(0), 0);
        // within a catch and a finally as well
        PlainJava w = Due.of("void m() { try { throw 1; } catch (e) { while (true) ; } finally { out(1); } }");
        run(due, w, "STEPS in a catch", 50, 3, 0);
        PlainJava v = Due.of("void m() { try { throw 1; } finally { while (true) ; } }");
        run(due, v, "STEPS in a finally", 50, 3, 0);
        due.same("what was thrown before is none", v.ran(0), 0);
    }

    // ---- the rest

    /** "operands from the left; of an assignment with an operator the variable's value first" */
    private static void operandsFromTheLeft(Due due) {
        String t = " int t(int a) { out(a); return a; } boolean b(int a) { out(a); return a > 0; }";
        for (String sign : NUMBERS) {
            PlainJava x = Due.of("void m() { int a = t(5) " + sign + " t(3); }" + t);
            run(due, x, sign, 99, 0, 0, 5, 3);
            long want = Due.worked(sign, false, 7, 3);
            PlainJava y = Due.of("int m() { int a = 7; a " + sign + "= (a = 3); return a; }");
            run(due, y, sign + "=", 99, 1, want);
            PlainJava z = Due.of("int m() { int a = 7; return a " + sign + " (a = 3); }");
            run(due, z, sign + " of a variable", 99, 1, want);
        }
        for (String sign : COMPARED) {
            run(due, "void m() { boolean a = t(5) " + sign + " t(3); }" + t, 0, 0, 5, 3);
        }
        for (String sign : new String[] {"&", "|", "^", "==", "!="}) {
            run(due, "void m() { boolean a = b(0) " + sign + " b(3); a = b(4) " + sign + " b(-1); }" + t, 0, 0, 0, 3, 4, -1);
        }
        run(due, "void m() { boolean a = b(0) && b(1); a = b(2) && b(3); a = b(0) || b(4); a = b(5) || b(6); }" + t, 0, 0, 0, 2, 3, 0, 4, 5);
        run(due, "void m() { int a = b(1) ? t(2) : t(3); a = b(0) ? t(4) : t(5); }" + t, 0, 0, 1, 2, 0, 5);
        run(due, "void m() { f(t(1), t(2), t(3), t(4), t(5), t(6)); } void f(int a, int b, int c, int d, int e, int g) { out(a - b * c + d - e * g); }" + t, 0, 0, 1, 2, 3, 4, 5, 6, -31);
        run(due, "void m() { int a = 1; f(a, a = 2, a++, a, ++a, -a); } void f(int a, int b, int c, int d, int e, int g) { out(a); out(b); out(c); out(d); out(e); out(g); }",
            0, 0, 1, 2, 2, 3, 4, -4);
        run(due, "int m() { int a = 1; return a++ + a++ * a-- - --a; }", 1, 1 + 2 * 3 - 1);
        run(due, "int m() { int a = 3; a = a++ + a; return a; }", 1, 7);
        run(due, "int m() { int a = 3; int b = a = 4; return a * 10 + b; }", 1, 44);
        run(due, "int m() { return 2 + 3 * 4 - 10 / 3 % 2 << 1 & 31 | 64 ^ 3; }", 1, 2 + 3 * 4 - 10 / 3 % 2 << 1 & 31 | 64 ^ 3);
        run(due, "int m() { return 100 - 20 - 3 + 200 / 10 / 2 * 3 % 7 + (-17 >> 1 >>> 28 << 2); }", 1, 100 - 20 - 3 + 200 / 10 / 2 * 3 % 7 + (-17 >> 1 >>> 28 << 2));
    }

    /** "also in a run that went past their exp" */
    private static void pastAConstantsExp(Due due) {
        String text = "void m(int a) { switch (a) { case 1: final int k = 5; final long g = 1L << 40; final byte b = 'a'; final boolean t = 2 > 1; out(0); case k: out(k); out(g + k); out(b); "
            + "out(t ? 1 : 2); switch (5) { case k: out(k * k); } } }";
        PlainJava x = Due.of(text);
        due.same("judge()", x.judge(), 0);
        x.argument(0, 5);
        run(due, x, "past them", 99, 0, 0, 5, (1L << 40) + 5, 97, 1, 25);
        x.argument(0, 1);
        run(due, x, "by them", 99, 0, 0, 0, 5, (1L << 40) + 5, 97, 1, 25);
        // one that is told and assigned behind is as any other
        run(due, "void m() { switch (2) { case 1: int a = 5; case 2: a = 6; out(a); } }", 0, 0, 6);
    }

    private static void asDeepAsCanBe(Due due) {
        String[][] pairs = {{"{ ", " }"}, {"if (true) ", ""}, {"if (false) ; else ", ""}, {"while (a == 5) ", ""}, {"do ", " while (a == 4);"}, {"for (; a == 5; ) ", ""}, {"l#: ", ""},
            {"switch (0) { case 0: ", " }"}, {"try { ", " } finally { }"}, {"try { ", " } catch (e#) { }"}, {"try { throw 1; } catch (e#) { ", " }"}, {"try { } finally { ", " }"}};
        for (String[] pair : pairs) {
            StringBuilder ahead = new StringBuilder();
            StringBuilder behind = new StringBuilder();
            for (int i = 0; i < 19; i++) {
                ahead.append(pair[0].replace("#", "" + i));
                behind.append(pair[1].replace("#", "" + (18 - i)));
            }
            String text = "int m() { int a; a = 5; " + ahead + "a++;" + behind + " return a; }";
            PlainJava x = Due.of(text);
            int at = Due.tokenAt(text, "a++", 0);
            due.same("judge() of 19 " + pair[0], x.judge(), 0);
            run(due, x, "19 " + pair[0], 20000, 1, 6);
            due.same("ends of what is within 19 " + pair[0], x.ends(at), 1);
            due.same("assigned ahead of it", x.assigned(at, 0), 1);
            if (!text.contains("a ==")) {
                due.error(15, text.replace("a = 5; ", "").replace("a++", "@a++"));
            }
        }
        run(due, "int m() " + Due.repeated("{ ", 20) + "return 5;" + Due.repeated(" }", 20), 1, 5);
        run(due, "int m() " + Due.repeated("{ ", 20) + "throw 5;" + Due.repeated(" }", 20), 2, 5);
        due.error(13, "int m() " + Due.repeated("{ ", 20) + "return 5; @;" + Due.repeated(" }", 20));
        due.error(14, "int @m() " + Due.repeated("{ ", 20) + "int a = 5;" + Due.repeated(" }", 20));
        // what leaves all of them at once
        String tries = "int m(int w) { l: for (; ; ) { " + Due.repeated("try { ", 15) + "if (w == 1) break l; if (w == 2) return 7; throw 8;" + Due.repeated(" } finally { out(w); }", 15) + " } return 6; }";
        PlainJava x = Due.of(tries);
        for (int w = 1; w <= 3; w++) {
            x.argument(0, w);
            due.same("run with " + w, x.run(0, 20000), w == 3 ? 2 : 1);
            due.same("ran(0)", x.ran(0), w == 1 ? 6 : w == 2 ? 7 : 8);
            due.same("ran(2)", x.ran(2), 15);
            due.same("ran(10)", x.ran(10), w);
            due.same("ran(24)", x.ran(24), w);
        }
        // and each of 30 calls within one another
        String deep = "int m(int n) { " + Due.repeated("try { ", 6) + "if (n == 1) throw 4; m(n - 1); return 0;" + Due.repeated(" } finally { if (n % 10 == 0) out(n); }", 6) + " }";
        PlainJava y = Due.of(deep);
        y.argument(0, 29);
        due.same("run", y.run(0, 20000), 2);
        due.same("ran(0)", y.ran(0), 4);
        due.same("ran(2)", y.ran(2), 12);
        due.same("ran(10)", y.ran(10), 10);
        due.same("ran(21)", y.ran(21), 20);
        // a way through a finally waits in each of 29 calls
        run(due, "int m() { return f(27); } int f(int n) { try { return n; } finally { if (n > 0) f(n - 1); if (n % 9 == 0) out(n); } }", 1, 27, 0, 9, 18, 27);
    }

    private static void asManyValuesAsCanWait(Due due) {
        // 16 times six operands wait, in each of 30 calls
        StringBuilder exp = new StringBuilder();
        for (int i = 0; i < 16; i++) {
            exp.append("1 | 2 ^ 4 & 7 << 1 + 2 * (");
        }
        long one = 0;
        long[] values = new long[31];
        values[1] = 3;
        for (int n = 2; n <= 30; n++) {
            one = values[n - 1];
            for (int i = 0; i < 16; i++) {
                one = 1 | 2 ^ 4 & 7 << 1 + 2 * (int) one;
            }
            values[n] = (int) one + n;
        }
        PlainJava x = Due.of("int m(int n) { return n < 2 ? 3 : (" + exp + "m(n - 1)" + Due.repeated(")", 16) + ") + n; }");
        x.argument(0, 30);
        due.same("judge()", x.judge(), 0);
        run(due, x, "values that wait", 20000, 1, values[30]);
        // a chain of choices, of && and ||, as long as a text can be
        PlainJava y = Due.of("boolean m(boolean a, boolean b) { return a" + Due.repeated(" && a || b", 118) + "; }");
        due.same("judge()", y.judge(), 0);
        run(due, y, "false", 20000, 1, 0);
        y.argument(1, 1);
        run(due, y, "true by b", 20000, 1, 1);
        y.argument(0, 1);
        y.argument(1, 0);
        run(due, y, "true by a", 20000, 1, 1);
        PlainJava z = Due.of("int m(int a) { return a" + Due.repeated(" + a++", 160) + "; }");
        run(due, z, "a sum of 161", 20000, 1, 159 * 160 / 2);
        // as many orders as a text can give: five of four tokens
        PlainJava w = Due.of("int m() { int a = 0; " + Due.repeated("a += 1; ", 121) + "return a; }");
        due.same("told(0)", w.told(0), 498);
        run(due, w, "121 assignments", 20000, 1, 121);
    }

    /** What waits in a caller is not touched by what a call does, however it goes on. */
    private static void valuesThatWaitStay(Due due) {
        for (String row : new String[] {"int a; a = 5; return a;", "int a; int b; { int c; } a = 2; b = 3; return a + b;", "for (int i; in() > 0; ) ; return 5;", "out(1); in(); return 5;",
            "int a = 3; a++; ++a; a = a * 1; return a;", "try { return 1 + 2 * (3 - (1 / in())); } catch (e) { return 6 + e; }", "try { throw 5; } catch (e) { return e; }",
            "try { return 9 * (8 + 7 / in()); } finally { return 5; }", "l: { int k; try { k = 4 + 3 / in(); } finally { break l; } } return 5;", "switch (in()) { case 0: int k; k = 5; return k; default: return 6; }",
            "int i = 0; while (i < 5) { int k; i++; } return i;", "boolean b = in() > 0 && in() > 0 || in() == 0; return b ? 5 : 6;", "g(); return 5;", "int r; do r = 5; while (in() > 0); return r;"}) {
            PlainJava x = Due.of("int m() { return 1000 - f() * 3 + (100 << (7 - f())) - h(1, f(), 2); } int f() { " + row + " } void g() { int z; z = 1; return; } int h(int a, int b, int c) { "
                + "return a * 10000 + b * 100 + c; }");
            due.same("judge() of " + row, x.judge(), 0);
            due.same("run of " + row, x.run(0, 20000), 1);
            due.same("ran(0) of " + row, x.ran(0), 1000 - 15 + (100 << 2) - 10502);
        }
        // the last of 30 calls has variables of its own, too
        PlainJava x = Due.of("int m(int n, int k) { int a = n * 2; int b = k + 1; int c = n == 1 ? a * 1000 + b : m(n - 1, b); return c * 2 + a - b; }");
        x.argument(0, 30);
        long want = 0;
        for (int n = 1; n <= 30; n++) {
            int b = 31 - n;
            int c = n == 1 ? n * 2 * 1000 + b : (int) want;
            want = c * 2 + n * 2 - b;
        }
        run(due, x, "30 calls with five variables", 20000, 1, want);
    }

    private static int nested(int levels, int n) {
        if (levels == 0) {
            return n < 2 ? 3 : nested(13, n - 1);
        }
        int k = levels + n;
        int inner = 6 | 7 ^ 8 & 9 << 10 + 11 * nested(levels - 1, n);
        return k * 3 + 2 * 5 - 3 * 7 + 4 * 11 - 5 * 13 + inner * 17;
    }

    /** Nothing of a run is left for the next one, though values, calls and ways through a finally stood open when it ended at once. */
    private static void nothingIsLeftOfARun(Due due) {
        StringBuilder exp = new StringBuilder();
        for (int i = 0; i < 13; i++) {
            exp.append("f(").append(13 - i).append("+n,5,7,11,13,6|7^8&9<<10+11*");
        }
        String text = "int m(int n){return n<1?3:" + exp + "m(n-1)" + Due.repeated(")", 13) + ";} int f(int a,int b,int c,int d,int e,int g){return a*3+2*b-3*c+4*d-5*e+g*17;}";
        PlainJava x = Due.of(text);
        due.same("judge()", x.judge(), 0);
        x.argument(0, 28);
        run(due, x, "eleven operands wait 13 times in each call", 20000, 1, nested(13, 28));
        for (int round = 0; round < 8; round++) {
            x.argument(0, 40);
            due.same("too many calls", x.run(0, 20000), 4);
            x.argument(0, 28);
            due.same("too many STEPS", x.run(0, 70), 3);
        }
        run(due, x, "and all is as before", 20000, 1, nested(13, 28));
        // a throw in the midst of an exp leaves nothing: 400 times 36 values
        PlainJava y = Due.of("int m(int n) { int s = 0; for (int i = 0; i < n; i++) try { s += 1 - 2 * (" + Due.repeated("3 - 4 * (", 14) + "5 / in()" + Due.repeated(")", 14)
            + "); } catch (e) { s += e; } return s + 1 + 2 * (3 + 4 * (5 + s)); }");
        y.argument(0, 400);
        due.same("judge()", y.judge(), 0);
        run(due, y, "400 throws", 20000, 1, -400 + 1 + 2 * (3 + 4 * (5 - 400)));
        // a throw out of a call leaves nothing either
        PlainJava z = Due.of("int m(int n) { int s = 0; for (int i = 0; i < n; i++) try { s += 1 - 2 * (3 - 4 * (5 - 6 * (7 - 8 * (9 - 10 * f(11 - 12 * (13 - 14 * in())))))); } catch (e) { s += e; } "
            + "return s; } int f(int a) { return 1 - 2 * (3 - 4 * (5 - 6 * (7 - 8 / in()))); }");
        z.argument(0, 900);
        run(due, z, "900 throws out of a call", 20000, 1, -900);
    }

    /** What a finally goes on with is of the way that was come to it by, each time anew. */
    private static void waysThroughAFinallyInTurn(Due due) {
        run(due, "void m() { for (int i = 0; i < 4; i++) { try { if (i % 2 == 0) continue; out(i); } finally { out(10 + i); } out(20 + i); } }", 0, 0, 10, 1, 11, 21, 12, 3, 13, 23);
        run(due, "void m() { for (int i = 0; i < 4; i++) { l: { try { if (i % 2 == 0) break l; out(i); } finally { out(10 + i); } out(20 + i); } } }", 0, 0, 10, 1, 11, 21, 12, 3, 13, 23);
        run(due, "void m() { for (int i = 0; i < 4; i++) try { try { if (i % 2 == 0) throw i; out(i); } finally { out(10 + i); } out(20 + i); } catch (e) { out(30 + e); } }",
            0, 0, 10, 30, 1, 11, 21, 12, 32, 3, 13, 23);
        run(due, "void m() { for (int i = 0; i < 4; i++) out(f(i)); } int f(int i) { try { if (i % 2 == 0) return i; } finally { out(10 + i); } return 20 + i; }", 0, 0, 10, 0, 11, 21, 12, 2, 13, 23);
        run(due, "void m() { for (int i = 0; i < 4; i++) { try { if (i % 2 == 0) throw 5; } catch (e) { if (i == 0) continue; } finally { out(10 + i); } out(20 + i); } }",
            0, 0, 10, 11, 21, 12, 22, 13, 23);
        PlainJava x = Due.of("int m(int w) { try { if (w == 1) throw 5; if (w == 2) return 6; if (w == 3) while (true) ; } finally { out(1); } out(2); return 7; }");
        int[] outcomes = {1, 2, 1, 3};
        long[] values = {7, 5, 6, 0};
        for (int w : new int[] {0, 1, 0, 2, 0, 3, 0, 1, 2, 3, 0}) {
            x.argument(0, w);
            due.same("run with " + w, x.run(0, 100), outcomes[w]);
            due.same("ran(0)", x.ran(0), values[w]);
            due.same("ran(2)", x.ran(2), w == 0 ? 2 : w == 3 ? 0 : 1);
        }
        // ways that wait in many calls at once, in S's of other depths
        long[] told = new long[27];
        for (int i = 0; i < 27; i++) {
            told[i] = i;
        }
        run(due, "int m() { return f(27); } int f(int n) { try { return n; } finally { if (n > 0) out(f(n - 1)); } }", 1, 27, told);
        run(due, "int m() { return f(27); } int f(int n) { { try { return n; } finally { if (n > 0) out(g(n - 1)); } } } int g(int n) { try { return n; } finally { if (n > 0) out(f(n - 1)); } }", 1, 27, told);
        run(due, "int m() { return f(27); } int f(int n) { try { return n; } finally { if (n > 0) out(g(n - 1)); } } int g(int n) { { { try { return n; } finally { if (n > 0) out(f(n - 1)); } } } }", 1, 27, told);
        run(due, "int m() { try { return f(26); } catch (e) { return e; } } int f(int n) { { try { throw n; } finally { if (n > 0) try { g(n - 1); } catch (e) { out(e); } } } } "
            + "int g(int n) { try { throw n; } finally { if (n > 0) try { f(n - 1); } catch (e) { out(e); } } }", 1, 26, java.util.Arrays.copyOf(told, 26));
        // a throw out of 29 calls, each of them 17 catches deep
        StringBuilder deep = new StringBuilder("void m(int n) { ");
        for (int i = 0; i < 17; i++) {
            deep.append("try { throw 1; } catch (e").append(i).append(") { ");
        }
        PlainJava y = Due.of(deep + "if (n == 1) throw 5; m(n - 1);" + Due.repeated(" }", 18));
        y.argument(0, 29);
        run(due, y, "a throw out of 29 calls", 20000, 2, 5);
        PlainJava z = Due.of(deep.toString().replace("void m", "void f") + "if (n == 1) throw 5; f(n - 1);" + Due.repeated(" }", 18) + " int m() { try { f(28); } catch (e) { return e + 1; } return 0; }");
        due.same("run(1, 20000)", z.run(1, 20000), 1);
        due.same("ran(0)", z.ran(0), 6);
    }

    /** Promise 20: "-1234567890123: none such, or there was none" */
    private static void whatRanTells(Due due) {
        PlainJava x = Due.of("boolean m(boolean a) { out(7); out(-8); in(); return a; } void n() { throw -5; } void o() { out(1); while (true) ; }");
        for (int what : new int[] {-1, 0, 1, 2, 3, 4, 5, 9, 10, 11, 209, 210}) {
            due.same("before a run: ran(" + what + ")", x.ran(what), Due.NOTHING);
        }
        x.argument(0, 4);
        due.same("run", x.run(0, 99), 1);
        long[] want = {1, 8, 2, 1, Due.tokenAt("boolean m(boolean a) { out(7); out(-8); in(); return", "return", 0)};
        for (int what = 0; what <= 4; what++) {
            due.same("ran(" + what + ")", x.ran(what), want[what]);
        }
        due.same("ran(10)", x.ran(10), 7);
        due.same("ran(11)", x.ran(11), -8);
        for (int what : new int[] {-1, 5, 6, 7, 8, 9, 12, 13, 209, 210, 211, Integer.MIN_VALUE, Integer.MAX_VALUE, -10}) {
            due.same("ran(" + what + ")", x.ran(what), Due.NOTHING);
        }
        x.argument(0, 0);
        due.same("run", x.run(0, 99), 1);
        due.same("false comes back as 0", x.ran(0), 0);
        due.same("run", x.run(1, 99), 2);
        due.same("thrown", x.ran(0), -5);
        due.same("none told", x.ran(2), 0);
        due.same("none taken", x.ran(3), 0);
        due.same("ran(10)", x.ran(10), Due.NOTHING);
        due.same("run", x.run(2, 9), 3);
        due.same("no value", x.ran(0), 0);
        due.same("told", x.ran(2), 1);
        due.same("ran(10)", x.ran(10), 1);
        due.same("ran(11) is of an earlier run", x.ran(11), Due.NOTHING);
        // those of 19 that tell a value, and which
        run(due, "long m() { return -9223372036854775808L; }", 1, Long.MIN_VALUE);
        run(due, "void m() { throw -2147483648; }", 2, Integer.MIN_VALUE);
        run(due, "void m() { throw 2147483647; }", 2, Integer.MAX_VALUE);
        run(due, "void m() { byte a = -1; throw a; }", 2, -1);
        run(due, "void m() { throw 'z'; }", 2, 122);
        run(due, "void m() { int a = in(); return; }", 0, 0);
    }
}
