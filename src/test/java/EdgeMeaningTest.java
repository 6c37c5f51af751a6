/**
 * The boundaries that the document's 'Terms, 2 MEANING' and promises 6 to 13 name: what a NUMBER may be, what a type
 * holds, WIDENS to and FITS, what each operator takes and makes, what is a CONSTANT, and each ERROR 1 to 12 with its place.
 */
final class EdgeMeaningTest {
    private static final String[] SHIFTS = {"<<", ">>", ">>>"};
    private static final String[] NUMBERS = {"+", "-", "*", "/", "%"};
    private static final String[] COMPARED = {"<", "<=", ">", ">="};
    private static final String[] BITS = {"&", "|", "^"};
    private static final String[] SAME = {"==", "!="};
    private static final String[] LOGIC = {"&&", "||"};
    private static final String F = " void f(boolean x) { } void f(long x) { }";

    public static void main(String[] args) {
        Due due = new Due();
        theGreatestNumbers(due);
        whatATypeHolds(due);
        whatWidens(due);
        voidIsNoValue(due);
        operatorsOfTwo(due);
        operatorsOfOne(due);
        casts(due);
        assignmentsWithAnOperator(due);
        choices(due);
        choicesOfConstants(due);
        conditions(due);
        constantsOfInts(due);
        constantsOfLongs(due);
        constantsOfOne(due);
        constantsByZero(due);
        constantVariables(due);
        castConstants(due);
        due.end();
    }

    // ---- 4

    /** "4 a NUMBER above 2147483647 (with L: 9223372036854775807), but one more than that right behind a unary -" */
    private static void theGreatestNumbers(Due due) {
        String[][] fine = {{"2147483646", "2147483646"}, {"2147483647", "2147483647"}, {"-2147483647", "-2147483647"}, {"-2147483648", "-2147483648"},
            {"2147483648L", "2147483648"}, {"-2147483648L", "-2147483648"}, {"-2147483649L", "-2147483649"}, {"9223372036854775806L", "9223372036854775806"},
            {"9223372036854775807L", "9223372036854775807"}, {"-9223372036854775807L", "-9223372036854775807"}, {"-9223372036854775808L", "-9223372036854775808"},
            {"- 2147483648", "-2147483648"}, {"- // x\n2147483648", "-2147483648"}, {"0002147483647", "2147483647"}, {"-0002147483648", "-2147483648"},
            {"- -2147483648", "-2147483648"}, {"1 - -2147483648", "-2147483647"}, {"~-2147483648", "2147483647"}, {"(byte) -2147483648", "0"}, {"+-2147483648", "-2147483648"},
            {"0", "0"}, {"0L", "0"}, {"-0", "0"}};
        for (String[] row : fine) {
            String text = "void m() { out(" + row[0] + "); }";
            PlainJava x = Due.of(text);
            due.same("judge() of " + text, x.judge(), 0);
            due.same("constant of " + row[0], x.constant(7, x.told(0) - 4), Long.parseLong(row[1]));
        }
        for (String wrong : new String[] {"@2147483648", "@2147483649", "-@2147483649", "@4294967295", "@4294967296", "@4294967297", "-@4294967296", "@9223372036854775807",
            "-@9223372036854775808", "@9999999999999999999", "@9223372036854775808L", "@9223372036854775809L", "-@9223372036854775809L", "@9999999999999999999L",
            "-@9999999999999999999L", "-(@2147483648)", "-(@9223372036854775808L)", "+@2147483648", "~@2147483648", "!@2147483648", "1 - @2147483648", "1-@2147483648",
            "1 - @9223372036854775808L", "(int) @2147483648", "-(int) @2147483648", "-+@2147483648", "-~@2147483648", "- - @2147483649", "@0002147483648"}) {
            due.error(4, "void m() { out(" + wrong + "); }");
        }
        // by itself it is the least int, long then
        PlainJava x = Due.of("void m() { out(-2147483648); out(-9223372036854775808L); }");
        due.same("2147483648", x.constant(8, 8), Integer.MIN_VALUE);
        due.same("TYPE of 2147483648", x.type(8, 8), 3);
        due.same("TYPE of -2147483648", x.type(7, 8), 3);
        due.same("9223372036854775808L", x.constant(14, 14), Long.MIN_VALUE);
        due.same("TYPE of 9223372036854775808L", x.type(14, 14), 4);
        due.same("-9223372036854775808L", x.constant(13, 14), Long.MIN_VALUE);
    }

    // ---- FITS

    private static final long[][] HELD = {{1, -128, 127}, {2, 0, 65535}};

    /** "a CONSTANT of byte, char or int whose value the type (byte, char) holds" */
    private static void whatATypeHolds(Due due) {
        for (long[] row : HELD) {
            String type = Due.TYPES[(int) row[0]];
            for (long v : new long[] {row[1] - 1, row[1], row[1] + 1, 0, row[2] - 1, row[2], row[2] + 1, Integer.MIN_VALUE, Integer.MAX_VALUE, row[1] - 256, row[2] + 65536}) {
                boolean held = v >= row[1] && v <= row[2];
                for (String exp : new String[] {"" + v, "(" + v + ")", v + " + 0", "true ? " + v + " : " + v, "(int) " + v + "L"}) {
                    fits(due, held, type + " a = @" + exp + ";");
                    fits(due, held, "final " + type + " a = @" + exp + ";");
                    fits(due, held, type + " a; a = @" + exp + ";");
                    fits(due, held, "for (" + type + " a = @" + exp + "; in() > 1; ) ;");
                    judged(due, held ? 0 : 5, type + " m() { return @" + exp + "; }");
                }
                fits(due, held, "final int k = " + v + "; " + type + " a = @k;");
                // a long, and what is no CONSTANT, never does
                fits(due, false, type + " a = @" + v + "L;");
                fits(due, false, "int k = " + v + "; " + type + " a = @k;");
                // nor an argument
                judged(due, 6, "void m() { @f(" + v + "); } void f(" + type + " a) { }");
                judged(due, held ? 0 : 8, "void m(" + type + " a) { switch (a) { case @" + v + ": } }");
                judged(due, 8, "void m(" + type + " a) { switch (a) { case @" + v + "L: } }");
                judged(due, 0, "void m(int a) { switch (a) { case " + v + ": } }");
            }
        }
        // CONSTANTS of byte and char
        fits(due, true, "byte a = @'a';");
        fits(due, true, "byte a = @(char) 127;");
        fits(due, false, "byte a = @(char) 128;");
        fits(due, true, "char a = @(byte) 127;");
        fits(due, true, "char a = @(byte) 0;");
        fits(due, false, "char a = @(byte) -1;");
        fits(due, true, "final byte k = 127; char a = @k;");
        fits(due, false, "final byte k = -1; char a = @k;");
        fits(due, false, "byte k = 127; char a = @k;");
        fits(due, false, "char k = 1; byte a = @k;");
        fits(due, false, "boolean a = @1;");
        fits(due, false, "int a = @1L;");
        fits(due, false, "int a = @true;");
        fits(due, false, "final long k = 1; byte a = @k;");
        // throw has to FIT int
        for (int t = 0; t <= 4; t++) {
            judged(due, t >= 1 && t <= 3 ? 0 : 5, "void m(" + Due.TYPES[t] + " a) { throw @a; }");
        }
        judged(due, 5, "void m() { throw @1L; }");
        judged(due, 5, "void m() { throw @true; }");
    }

    private static void fits(Due due, boolean fits, String marked) {
        judged(due, fits ? 0 : 5, "void m() { " + marked + " }");
    }

    private static void judged(Due due, int error, String marked) {
        if (error == 0) {
            due.fine(marked.replace("@", ""));
        } else {
            due.error(error, marked);
        }
    }

    /** "byte and char WIDEN to int and long, int to long" */
    private static void whatWidens(Due due) {
        for (int from = 0; from <= 4; from++) {
            for (int to = 0; to <= 4; to++) {
                int five = Due.widens(from, to) ? 0 : 5;
                String u = Due.TYPES[from];
                String t = Due.TYPES[to];
                judged(due, five, "void m(" + u + " a) { " + t + " b = @a; }");
                judged(due, five, "void m(" + u + " a) { " + t + " b; b = @a; }");
                judged(due, five, t + " m(" + u + " a) { return @a; }");
                judged(due, Due.widens(from, to) ? 0 : 6, "void m(" + u + " a) { @f(a); } void f(" + t + " b) { }");
                judged(due, Due.widens(from, to) ? 0 : 6, "void m(" + u + " a) { @f(1, a); } void f(int c, " + t + " b) { }");
                // of two methods the one whose param is the same as, or WIDENS to, the other's
                for (int other = 0; other <= 4; other++) {
                    if (other != to && Due.widens(from, to) && Due.widens(from, other)) {
                        String text = "void m(" + u + " a) { f(a); } void f(" + t + " b) { } void f(" + Due.TYPES[other] + " b) { }";
                        PlainJava x = Due.of(text);
                        due.same("means of f in " + text, x.means(7), Due.widens(to, other) ? 101 : 102);
                    }
                }
            }
        }
    }

    /** "arguments that are void", and wherever else a value is wanted */
    private static void voidIsNoValue(Due due) {
        for (String row : new String[] {"int a = @out(1);", "boolean a = @out(1);", "int a; a = @out(1);", "int a = 1; a += @out(1);", "boolean a = true; a &= @out(1);",
            "out(@out(1));", "f(@out(1));", "f(1, @out(1));", "throw @out(1);", "switch (@out(1)) { }", "if (@out(1)) ;", "while (@out(1)) ;", "do ; while (@out(1));",
            "for (; @out(1); ) ;", "int a = @out(1) + 1;", "int a = 1 + @out(1);", "boolean a = @out(1) == out(1);", "boolean a = 1 == @out(1);", "boolean a = true == @out(1);",
            "boolean a = @out(1) && true;", "boolean a = true && @out(1);", "boolean a = true & @out(1);", "int a = 1 & @out(1);", "int a = 1 << @out(1);",
            "boolean a = 1 < @out(1);", "int a = -@out(1);", "boolean a = !@out(1);", "int a = ~@out(1);", "int a = +@out(1);", "int a = (int) @out(1);",
            "boolean a = (boolean) @out(1);", "int a = @(out(1));", "int a = true ? @out(1) : 1;", "int a = true ? 1 : @out(1);", "int a = true ? @out(1) : out(1);",
            "boolean a = true ? true : @out(1);", "int a = @out(1) ? 1 : 2;"}) {
            due.error(5, "void m() { " + row + " }");
        }
        due.error(5, "int m() { return @out(1); }");
        due.error(11, "void m() { @return out(1); }");
        due.error(8, "void m() { switch (1) { case @out(1): } }");
        due.fine("void m() { out(1); m(); for (out(1), m(); in() > 1; out(1), m()) ; }");
        due.error(12, "void m() { @(out(1)); }");
        PlainJava x = Due.of("void m() { out(1); }");
        due.same("TYPE of out(1)", x.type(5, 8), 5);
    }

    // ---- operators

    private static boolean isNumber(int type) {
        return type >= 1 && type <= 4;
    }

    private static int ofBoth(int a, int b) {
        return a == 4 || b == 4 ? 4 : 3;
    }

    /** One operator between each two TYPES: makes is the TYPE that comes of it, or -1 and -2: 5 at the left, right one. */
    private static void between(Due due, String sign, int a, int b, int makes) {
        String text = "void m(" + Due.TYPES[a] + " a, " + Due.TYPES[b] + " b) { f(@a " + sign + " #b); }" + F;
        if (makes < 0) {
            due.error(5, makes == -1 ? text.replace("#", "") : text.replace("@", "").replace("#", "@"));
            return;
        }
        text = text.replace("@", "").replace("#", "");
        PlainJava x = Due.of(text);
        int i = Due.tokenAt(text, "f(", 0) + 2;
        due.same("judge() of " + text, x.judge(), 0);
        due.same("TYPE in " + text, x.type(i, i + 2), makes);
    }

    /** "unary + - ~ make int or long, binary ones likewise of both, shifts of the left one alone; & | ^ also of two booleans; == != .." */
    private static void operatorsOfTwo(Due due) {
        for (int a = 0; a <= 4; a++) {
            for (int b = 0; b <= 4; b++) {
                int wrong = !isNumber(a) ? -1 : !isNumber(b) ? -2 : 0;
                for (String sign : NUMBERS) {
                    between(due, sign, a, b, wrong != 0 ? wrong : ofBoth(a, b));
                }
                for (String sign : SHIFTS) {
                    between(due, sign, a, b, wrong != 0 ? wrong : ofBoth(a, a));
                }
                for (String sign : COMPARED) {
                    between(due, sign, a, b, wrong);
                }
                boolean goTogether = isNumber(a) == isNumber(b);
                for (String sign : SAME) {
                    between(due, sign, a, b, goTogether ? 0 : -2);
                }
                for (String sign : BITS) {
                    between(due, sign, a, b, !goTogether ? -2 : isNumber(a) ? ofBoth(a, b) : 0);
                }
                for (String sign : LOGIC) {
                    between(due, sign, a, b, a != 0 ? -1 : b != 0 ? -2 : 0);
                }
            }
        }
    }

    private static void operatorsOfOne(Due due) {
        for (int a = 0; a <= 4; a++) {
            String t = Due.TYPES[a];
            for (String sign : new String[] {"+", "-", "~", "!"}) {
                boolean isTaken = sign.equals("!") ? a == 0 : isNumber(a);
                if (isTaken) {
                    PlainJava x = Due.of("void m(" + t + " a) { f(" + sign + "a); }" + F);
                    due.same("judge() of " + sign + t, x.judge(), 0);
                    due.same("TYPE of " + sign + t, x.type(9, 10), sign.equals("!") ? 0 : ofBoth(a, a));
                } else {
                    due.error(5, "void m(" + t + " a) { f(" + sign + "@a); }" + F);
                    due.error(5, "void m(" + t + " a) { f(" + sign + "@(a)); }" + F);
                }
            }
            for (String sign : new String[] {"++", "--"}) {
                if (isNumber(a)) {
                    PlainJava x = Due.of("void m(" + t + " a) { f(" + sign + "a); f(a" + sign + "); }" + F);
                    due.same("judge() of " + sign + t, x.judge(), 0);
                    due.same("TYPE of " + sign + t, x.type(9, 10), a);
                    due.same("TYPE of " + t + sign, x.type(15, 16), a);
                } else {
                    due.error(5, "void m(" + t + " a) { f(@" + sign + "a); }" + F);
                    due.error(5, "void m(" + t + " a) { f(@a" + sign + "); }" + F);
                }
            }
            PlainJava x = Due.of("void m(" + t + " a) { f((a)); f(a = a); }" + F);
            due.same("TYPE of (" + t + ")", x.type(9, 11), a);
            due.same("TYPE of " + t + " itself", x.type(10, 10), a);
            due.same("TYPE of = of " + t, x.type(16, 18), a);
        }
    }

    /** "casts go between all numbers, and from boolean to boolean" */
    private static void casts(Due due) {
        for (int a = 0; a <= 4; a++) {
            for (int to = 0; to <= 4; to++) {
                String text = "void m(" + Due.TYPES[a] + " a) { f((" + Due.TYPES[to] + ") @a); }" + F;
                if (isNumber(a) != isNumber(to)) {
                    due.error(5, text);
                } else {
                    PlainJava x = Due.of(text.replace("@", ""));
                    due.same("judge() of " + text, x.judge(), 0);
                    due.same("TYPE in " + text, x.type(9, 12), to);
                }
            }
        }
    }

    /** "++, -- or an assignment with an operator whose variable has another type (at the first token of these)" */
    private static void assignmentsWithAnOperator(Due due) {
        for (int a = 0; a <= 4; a++) {
            for (int b = 0; b <= 4; b++) {
                String head = "void m(" + Due.TYPES[a] + " a, " + Due.TYPES[b] + " b) { ";
                for (String sign : new String[] {"+", "-", "*", "/", "%", "<<", ">>", ">>>"}) {
                    if (!isNumber(a)) {
                        due.error(5, head + "@a " + sign + "= b; }");
                    } else {
                        taken(due, isNumber(b), head, sign, a);
                    }
                }
                for (String sign : BITS) {
                    taken(due, isNumber(a) == isNumber(b), head, sign, a);
                }
            }
        }
        // what comes back is cast: no CONSTANT has to FIT
        due.fine("void m(byte a, char b, int c) { a += 128; a += 1L << 40; b -= 70000; c *= 9999999999L; a <<= 99L; a = 1; }");
        due.error(7, "void m(final byte a) { @a += 1; }");
        due.error(5, "void m(final boolean a) { @a += 1; }");
        due.error(7, "void m(final boolean a) { @a &= 1; }");
    }

    private static void taken(Due due, boolean isTaken, String head, String sign, int type) {
        if (!isTaken) {
            due.error(5, head + "a " + sign + "= @b; }");
            return;
        }
        PlainJava x = Due.of(head + "a " + sign + "= b; }");
        due.same("judge() of " + head + sign, x.judge(), 0);
        due.same("TYPE of " + head + sign, x.type(10, 12), type);
    }

    /** "a choice has the type of both if it is the same, .. else what both WIDEN to (two booleans or two numbers)" */
    private static void choices(Due due) {
        for (int a = 0; a <= 4; a++) {
            for (int b = 0; b <= 4; b++) {
                String text = "void m(boolean o, " + Due.TYPES[a] + " a, " + Due.TYPES[b] + " b) { f(o ? a : @b); }" + F;
                if (isNumber(a) != isNumber(b)) {
                    due.error(5, text);
                } else {
                    PlainJava x = Due.of(text.replace("@", ""));
                    due.same("judge() of " + text, x.judge(), 0);
                    due.same("TYPE in " + text, x.type(15, 19), a == b ? a : ofBoth(a, b));
                }
            }
        }
        for (int o = 1; o <= 4; o++) {
            due.error(5, "void m(" + Due.TYPES[o] + " o) { f(@o ? 1 : 2); }" + F);
        }
    }

    /** "byte or char if one is that and the other a CONSTANT of int that it holds" */
    private static void choicesOfConstants(Due due) {
        for (long[] row : HELD) {
            int t = (int) row[0];
            for (long v : new long[] {row[1] - 1, row[1], row[1] + 1, row[2] - 1, row[2], row[2] + 1, Integer.MIN_VALUE, Integer.MAX_VALUE}) {
                int makes = v >= row[1] && v <= row[2] ? t : 3;
                choice(due, t, "a", "" + v, makes);
                choice(due, t, "" + v, "a", makes);
                choice(due, t, "a", v + "L", 4);
                choice(due, t, "a", "k", 3, "int k = " + v + ";");
                choice(due, t, "a", "k", makes, "final int k = " + v + ";");
                choice(due, t, "k", "a", makes, "final int k = " + v + ";");
                choice(due, t, "(a)", "(" + v + ")", makes);
            }
            // a CONSTANT of another type than int does not count, nor does one that is no CONSTANT by / by 0
            choice(due, t, "a", "(int) 1", t);
            choice(due, t, "a", t == 1 ? "'a'" : "(byte) 1", 3);
            choice(due, t, t == 1 ? "'a'" : "(byte) 1", "a", 3);
            choice(due, t, "a", "1 / 0", 3);
            choice(due, t, "a", "in()", 3);
            choice(due, t, "a", "a", t);
            // CONSTANTS on both sides: an int that the other one's type holds
            choice(due, t, t == 1 ? "(byte) 1" : "'a'", "5", t);
            choice(due, t, "5", "6", 3);
        }
    }

    private static void choice(Due due, int type, String then, String otherwise, int makes) {
        choice(due, type, then, otherwise, makes, "");
    }

    private static void choice(Due due, int type, String then, String otherwise, int makes, String told) {
        String exp = "o ? " + then + " : " + otherwise;
        String text = "void m(boolean o, " + Due.TYPES[type] + " a) { " + told + " f(" + exp + "); }" + F;
        PlainJava x = Due.of(text);
        due.same("judge() of " + text, x.judge(), 0);
        due.same("TYPE of " + exp + " in " + text, x.type(Due.tokenAt(text, exp, 0), Due.tokenBehind(text, exp, 0)), makes);
    }

    /** "conditions (boolean), .. switch (byte, char, int)" */
    private static void conditions(Due due) {
        for (int t = 0; t <= 4; t++) {
            String head = "void m(" + Due.TYPES[t] + " a) { ";
            int five = t == 0 ? 0 : 5;
            judged(due, five, head + "if (@a) ; }");
            judged(due, five, head + "while (@a) ; }");
            judged(due, five, head + "do ; while (@a); }");
            judged(due, five, head + "for (; @a; ) ; }");
            judged(due, t >= 1 && t <= 3 ? 0 : 5, head + "switch (@a) { } }");
            judged(due, five, head + "if (@(a)) ; }");
        }
    }

    // ---- CONSTANTS

    private static final long[] INTS = {0, 1, -1, 2, 7, -7, 31, 32, 33, 63, 64, -32, 65536, Integer.MAX_VALUE, Integer.MIN_VALUE};
    private static final long[] LONGS = {0, 1, -1, 3, -7, 31, 32, 63, 64, 65, 4294967296L, Integer.MIN_VALUE, Long.MAX_VALUE, Long.MIN_VALUE};

    private static void constantIs(Due due, String exp, Long want) {
        String text = "void m() { f(" + exp + "); }" + F;
        PlainJava x = Due.of(text);
        int i = Due.tokenAt(text, "f(", 0) + 2;
        due.same("judge() of " + text, x.judge(), 0);
        due.same("constant of " + exp, x.constant(i, Due.tokenBehind(text, "f(" + exp, 0)), want == null ? Due.NOTHING : want);
    }

    private static void constantsOf(Due due, boolean isLong, long[] values, String[]... rows) {
        for (String[] signs : rows) {
            for (String sign : signs) {
                for (long a : values) {
                    for (long b : values) {
                        constantIs(due, Due.literal(isLong, a) + " " + sign + " " + Due.literal(isLong, b), Due.worked(sign, isLong, a, b));
                    }
                }
            }
        }
    }

    private static void constantsOfInts(Due due) {
        constantsOf(due, false, INTS, NUMBERS, SHIFTS, COMPARED, BITS, SAME);
    }

    private static void constantsOfLongs(Due due) {
        constantsOf(due, true, LONGS, NUMBERS, SHIFTS, COMPARED, BITS, SAME);
        // an int and a long: of both; shifts: of the left one alone
        for (long a : new long[] {Integer.MAX_VALUE, Integer.MIN_VALUE, -1, 1}) {
            for (String sign : NUMBERS) {
                constantIs(due, Due.literal(false, a) + " " + sign + " 2147483647L", Due.worked(sign, true, a, 2147483647L));
                constantIs(due, "2147483647L " + sign + " " + Due.literal(false, a), Due.worked(sign, true, 2147483647L, a));
            }
            for (String sign : SHIFTS) {
                for (long by : new long[] {0, 1, 31, 32, 33, 63, 64, -1, 4294967297L}) {
                    constantIs(due, Due.literal(false, a) + " " + sign + " " + Due.literal(true, by), Due.worked(sign, false, a, by));
                }
                for (long by : new long[] {0, 31, 32, 63, 64, 65, -1}) {
                    constantIs(due, Due.literal(true, a) + " " + sign + " " + Due.literal(false, by), Due.worked(sign, true, a, by));
                }
            }
            for (String sign : COMPARED) {
                constantIs(due, Due.literal(false, a) + " " + sign + " 2147483648L", Due.worked(sign, true, a, 2147483648L));
            }
        }
    }

    private static void constantsOfOne(Due due) {
        for (long v : INTS) {
            constantIs(due, "- " + Due.literal(false, v), (long) -(int) v);
            constantIs(due, "~" + Due.literal(false, v), (long) ~(int) v);
            constantIs(due, "+ " + Due.literal(false, v), v);
        }
        for (long v : LONGS) {
            constantIs(due, "- " + Due.literal(true, v), -v);
            constantIs(due, "~" + Due.literal(true, v), ~v);
            constantIs(due, "+ " + Due.literal(true, v), v);
        }
        for (int a = 0; a < 2; a++) {
            String p = a == 1 ? "true" : "false";
            constantIs(due, p, (long) a);
            constantIs(due, "!" + p, 1L - a);
            constantIs(due, "(boolean) " + p, (long) a);
            constantIs(due, "(" + p + ")", (long) a);
            for (int b = 0; b < 2; b++) {
                String q = b == 1 ? "true" : "false";
                constantIs(due, p + " && " + q, (long) (a & b));
                constantIs(due, p + " || " + q, (long) (a | b));
                constantIs(due, p + " & " + q, (long) (a & b));
                constantIs(due, p + " | " + q, (long) (a | b));
                constantIs(due, p + " ^ " + q, (long) (a ^ b));
                constantIs(due, p + " == " + q, a == b ? 1L : 0L);
                constantIs(due, p + " != " + q, a != b ? 1L : 0L);
                constantIs(due, p + " ? " + q + " : !" + q, (long) (a == 1 ? b : 1 - b));
            }
            constantIs(due, p + " ? 5 : 6L", a == 1 ? 5L : 6L);
        }
        // choices, ++ -- , assignments and calls of what is none
        for (String exp : new String[] {"in()", "in() + 1", "1 + in()", "-in()", "(in())", "(byte) in()", "true ? 1 : in()", "false ? in() : 1", "in() > 1 ? 1 : 1",
            "false && in() > 1", "true || in() > 1", "in() > 1 && false", "0 * in()", "in() * 0"}) {
            constantIs(due, exp, null);
        }
    }

    /** "not where / or % by 0 is worked out" */
    private static void constantsByZero(Due due) {
        for (String zero : new String[] {"0", "0L", "(byte) 0", "(char) 0", "(1 - 1)", "(5 >> 3)", "(true ? 0 : 1)", "(char) 65536", "(int) 4294967296L"}) {
            for (String sign : new String[] {"/", "%"}) {
                constantIs(due, "1 " + sign + " " + zero, null);
                constantIs(due, "0 " + sign + " " + zero, null);
                constantIs(due, "1L " + sign + " " + zero, null);
                constantIs(due, "1 + 1 " + sign + " " + zero, null);
                constantIs(due, "(1 " + sign + " " + zero + ")", null);
                constantIs(due, "-(1 " + sign + " " + zero + ")", null);
                constantIs(due, "(long) (1 " + sign + " " + zero + ")", null);
                constantIs(due, "1 " + sign + " " + zero + " == 1", null);
                constantIs(due, "true || 1 " + sign + " " + zero + " == 1", null);
                constantIs(due, "false && 1 " + sign + " " + zero + " == 1", null);
                constantIs(due, "true ? 1 : 1 " + sign + " " + zero, null);
                constantIs(due, "false ? 1 " + sign + " " + zero + " : 1", null);
                constantIs(due, "1 " + sign + " " + zero + " == 1 ? 1 : 1", null);
            }
        }
        for (String other : new String[] {"1", "'0'", "-1", "(0 - 1)", "(1 / 2 + 1)"}) {
            constantIs(due, "0 / " + other, 0L);
            constantIs(due, "0 % " + other, 0L);
        }
        constantIs(due, "0 * 5", 0L);
        constantIs(due, "5 - 5", 0L);
        // the parts of it that are CONSTANTS still are
        String text = "void m() { f(6 / (3 - 3)); }" + F;
        PlainJava x = Due.of(text);
        due.same("judge()", x.judge(), 0);
        due.same("6", x.constant(7, 7), 6);
        due.same("(3 - 3)", x.constant(9, 13), 0);
        due.same("3 - 3", x.constant(10, 12), 0);
        due.same("6 / (3 - 3)", x.constant(7, 13), Due.NOTHING);
        due.same("TYPE of 6 / (3 - 3)", x.type(7, 13), 3);
    }

    /** "final variables whose exp is a CONSTANT (with the type's value, wherever they stand ..)" */
    private static void constantVariables(Due due) {
        Object[][] rows = {{"final byte k = 'a';", 97L, 1}, {"final byte k = -128;", -128L, 1}, {"final char k = 65535;", 65535L, 2}, {"final char k = (byte) 5;", 5L, 2},
            {"final int k = 'a';", 97L, 3}, {"final int k = (byte) 200;", -56L, 3}, {"final long k = 2147483647 + 1;", -2147483648L, 4}, {"final long k = 'b';", 98L, 4},
            {"final boolean k = 1 < 2;", 1L, 0}, {"final boolean k = !true;", 0L, 0}, {"final int j = 5; final int k = j + j;", 10L, 3},
            {"final long j = 5; final long k = j << 40;", 5L << 40, 4}, {"int k = 5;", null, 3}, {"final int k = in();", null, 3}, {"final int k = 1 / 0;", null, 3},
            {"final int j = in(); final int k = j;", null, 3}, {"int j = 5; final int k = j;", null, 3}, {"int k; k = 5;", null, 3}, {"int j; final int k = j = 5;", null, 3}};
        for (Object[] row : rows) {
            String text = "void m() { " + row[0] + " f(k); }" + F;
            PlainJava x = Due.of(text);
            int i = Due.tokenAt(text, "k);", 0);
            due.same("judge() of " + text, x.judge(), 0);
            due.same("constant of k in " + text, x.constant(i, i), row[1] == null ? Due.NOTHING : (Long) row[1]);
            due.same("TYPE of k in " + text, x.type(i, i), (Integer) row[2]);
        }
        // params and catch's NAME are none, final or not
        String text = "void m(final int a, final boolean b) { f(a); f(b); try { } catch (e) { f(e); } for (final int i = 3; ; ) f(i); }" + F;
        PlainJava x = Due.of(text);
        due.same("judge()", x.judge(), 0);
        for (String name : new String[] {"a);", "b);", "e);"}) {
            int i = Due.tokenAt(text, name, 0);
            due.same("constant of " + name, x.constant(i, i), Due.NOTHING);
        }
        int i = Due.tokenAt(text, "i);", 0);
        due.same("constant of for's variable", x.constant(i, i), 3);
        // wherever they stand: in a case, in its own switch past its exp, in another case's S
        due.fine("void m(int a) { switch (a) { case 1: final int k = 5; case k: out(k); case k + 1: byte b = k; } }");
        due.error(8, "void m(int a) { switch (a) { case 1: final int k = 1; case @k: } }");
    }

    private static void castConstants(Due due) {
        long[] values = {0, 1, -1, 127, 128, 129, 255, 256, 257, -128, -129, -256, 32767, 65535, 65536, 65537, -65536, 2147483647L, 2147483648L, 4294967295L, 4294967296L,
            -2147483648L, -2147483649L, Long.MAX_VALUE, Long.MIN_VALUE};
        for (long v : values) {
            constantIs(due, "(byte) " + Due.literal(true, v), (long) (byte) v);
            constantIs(due, "(char) " + Due.literal(true, v), (long) (char) v);
            constantIs(due, "(int) " + Due.literal(true, v), (long) (int) v);
            constantIs(due, "(long) " + Due.literal(true, v), v);
            if (v == (int) v) {
                constantIs(due, "(byte) " + Due.literal(false, v), (long) (byte) v);
                constantIs(due, "(char) " + Due.literal(false, v), (long) (char) v);
                constantIs(due, "(int) " + Due.literal(false, v), v);
                constantIs(due, "(long) " + Due.literal(false, v), v);
                constantIs(due, "(char) (byte) " + Due.literal(false, v), (long) (char) (byte) v);
                constantIs(due, "(int) (char) " + Due.literal(false, v), (long) (char) v);
            }
        }
    }
}
