/**
 * The ERRORS 1 to 12 of the document's 'Terms, 2 MEANING', each with its place, at the boundary where it begins to be
 * one, and which of several is told; and what promises 7 to 12 say of a program with or without one.
 */
final class EdgeErrorTest {
    public static void main(String[] args) {
        Due due = new Due();
        methodsToldBefore(due);
        variablesKnown(due);
        namesThatAreNone(due);
        calls(due);
        finals(due);
        cases(due);
        breaksAndContinues(due);
        labels(due);
        returns(due);
        expsAsS(due);
        theLeastPlace(due);
        ofOnePlaceTheLeast(due);
        whatIsAtFaultTellsNoMore(due);
        andOthersDo(due);
        laterOnesOnlyWithoutEarlier(due);
        meansIsLookedAtFirst(due);
        whateverErrorItIs(due);
        whatIsAskedWithAnError(due);
        due.end();
    }

    /** "1 a method of the NAME and params' types of another one, told before (at its NAME)" */
    private static void methodsToldBefore(Due due) {
        due.error(1, "void m() { } void @m() { }");
        due.error(1, "void m() { } int @m() { return 1; }");
        due.error(1, "void m(int a) { } void @m(int b) { }");
        due.error(1, "void m(int a) { } void @m(final int a) { }");
        due.error(1, "void m(int a, long b) { } void n() { } void @m(int a, long b) { }");
        due.error(1, "void m() { } void @m() { } void m() { }");
        due.error(1, "void m(boolean a, byte b, char c, int d, long e, int f) { } void @m(boolean a, byte b, char c, int d, long e, int f) { }");
        due.fine("void m(boolean a, byte b, char c, int d, long e, int f) { } void m(boolean a, byte b, char c, int d, long e, long f) { }");
        due.fine("void m(boolean a, byte b) { } void m(byte a, boolean b) { } void m(boolean a) { } void m() { } void n() { } void M() { }");
        due.fine("void m(byte a) { } void m(char a) { } void m(int a) { } void m(long a) { } void m(boolean a) { }");
        // two are there from the beginning: void out(long) and int in()
        due.error(1, "void @out(long a) { }");
        due.error(1, "int @out(long a) { return 1; }");
        due.error(1, "int @in() { return 1; }");
        due.error(1, "void @in() { }");
        due.error(1, "void m() { } void @out(final long a) { }");
        due.fine("void out(int a) { } void out() { } void out(long a, long b) { } void out(boolean a) { } int in(int a) { return 1; } void In() { } void outt(long a) { }");
        StringBuilder ten = new StringBuilder();
        for (int i = 0; i < 9; i++) {
            ten.append("void m").append(i).append("() { } ");
        }
        due.fine(ten + "void m9() { }");
        due.error(1, ten + "void @m0() { }");
        due.error(1, ten + "void @m8() { }");
    }

    /** "2 a variable where one of this NAME is known (at it)" "known from its own exp on to the end of its block .." */
    private static void variablesKnown(Due due) {
        due.error(2, "void m(int a, int b, int @a) { }");
        due.error(2, "void m(int a) { int @a; }");
        due.error(2, "void m(int a) { { { boolean @a; } } }");
        due.error(2, Due.m("int a; int @a;"));
        due.error(2, Due.m("int a; { int @a; }"));
        due.error(2, Due.m("int a; for (int @a = 1; ; ) ;"));
        due.error(2, Due.m("int a; try { } catch (@a) { }"));
        due.error(2, Due.m("int a; switch (1) { case 1: int @a; }"));
        due.error(2, Due.m("for (int a = 1; ; ) { int @a; }"));
        due.error(2, Due.m("for (int a = 1; ; ) for (int @a = 1; ; ) ;"));
        due.error(2, Due.m("try { } catch (a) { int @a; }"));
        due.error(2, Due.m("try { } catch (a) { try { } catch (@a) { } }"));
        due.error(2, Due.m("switch (1) { case 1: int a; case 2: int @a; }"));
        due.error(2, Due.m("switch (1) { case 1: int a; default: { int @a; } }"));
        due.error(2, Due.m("switch (1) { case 1: int a; } int a; int @a;"));
        // one byte behind: the block has ended
        due.fine(Due.m("{ int a; } int a; "));
        due.fine(Due.m("{ int a; } { int a; } { { int a; } int a; }"));
        due.fine(Due.m("for (int a = 1; in() > 1; ) ; for (int a = 1; in() > 1; ) { } int a;"));
        due.fine(Due.m("for (int a = 1; in() > 1; ) { int b; } int b; int a;"));
        due.fine(Due.m("try { int a; } catch (a) { } finally { int a; } int a;"));
        due.fine(Due.m("try { } catch (a) { } try { } catch (a) { }"));
        due.fine(Due.m("switch (1) { case 1: int a; } switch (2) { case 1: int a; } int a;"));
        due.fine(Due.m("if (in() > 1) { int a; } else { int a; } while (in() > 1) { int a; } do { int a; } while (in() > 1); int a;"));
        due.fine("void m(int a) { } void n(int a) { } void o() { int a; }");
        // what has a NAME of another kind is no variable
        due.fine("void a(int a) { a: { break a; } a(1); }");
        due.fine("void out(int in, int out) { in(); out(in); }");
    }

    /** "3 a NAME that is no known variable." */
    private static void namesThatAreNone(Due due) {
        for (String use : new String[] {"out(@a);", "out(1 + @a);", "out(-@a);", "out((int) @a);", "out((@a));", "@a = 1;", "@a += 1;", "@a++;", "@a--;", "++@a;", "--@a;", "if (@a) ;",
            "return @a;", "throw @a;", "switch (@a) { }", "int b = @a;", "int b; b = @a;", "int b = 1; b <<= @a;", "out(true ? @a : 1);", "out(@a ? 1 : 2);", "out(true ? 1 : @a);",
            "for (@a = 1; ; ) ;", "for (; ; @a++) ;", "out(2, @a);", "switch (1) { case @a: }"}) {
            due.error(3, Due.m(use));
            due.error(3, "void n(int a) { } " + Due.m("{ int a = 1; } " + use));
            due.error(3, Due.m("for (int a = 1; in() > 1; ) ; " + use));
            due.error(3, Due.m("try { int a = 1; } catch (e) { } " + use));
            due.error(3, Due.m("try { } catch (a) { } finally { " + use + " }"));
            due.error(3, Due.m("try { " + use + " } catch (a) { }"));
            due.error(3, Due.m("switch (1) { default: int a = 1; } " + use));
            due.error(3, "void a() { " + use + " int a = 1; }");
        }
        // from its own exp on
        due.error(15, Due.m("int a = @a;"));
        due.fine(Due.m("int a = (a = 1) + a;"));
        due.fine(Due.m("for (int a = (a = 1); a < 1; a++) out(a);"));
        due.fine(Due.m("try { } catch (a) { out(a); a = 1; }"));
        due.fine(Due.m("switch (1) { case 1: int a; case 2: a = 1; out(a); }"));
        due.fine("void m(int a) { { { out(a); } } }");
        due.error(3, Due.m("for (int a = 1; in() > 1; ) ; { out(@a); }"));
        due.error(3, Due.m("if (in() > 1) { int a = 1; } else out(@a);"));
        due.error(3, Due.m("do { boolean a = true; } while (@a);"));
        due.error(3, Due.m("l: { } out(@l);"));
        due.error(3, Due.m("out(@in);"));
        due.error(3, Due.m("out(@m);"));
    }

    /** "6 a call that means no method, or several (at its NAME)" */
    private static void calls(Due due) {
        due.error(6, Due.m("@f();"));
        due.error(6, "void m(int m) { @f(m); }");
        due.error(6, Due.m("int f = 1; @f();"));
        due.error(6, Due.m("@m(1);"));
        due.error(6, "void m(int a) { @m(); }");
        due.error(6, "void m(int a) { @m(1, 2); }");
        due.error(6, Due.m("@in(1);"));
        due.error(6, Due.m("@out();"));
        due.error(6, Due.m("out(1); @out(1, 1);"));
        due.error(6, Due.m("@out(true);"));
        due.error(6, Due.m("out(1 + @f());"));
        // the one all of whose params are the same as, or WIDEN to, those of each other one
        Object[][] rows = {
            {"1", "int a", "long a", 101}, {"1L", "int a", "long a", 102}, {"'a'", "int a", "long a", 101}, {"(byte) 1", "char a", "int a", 102},
            {"'a'", "char a", "int a", 101}, {"(byte) 1", "byte a", "char a", 101}, {"1, 1", "int a, int b", "long a, long b", 101}, {"1, 1", "long a, long b", "int a, int b", 102},
            {"1, 1", "int a, long b", "long a, int b", -1}, {"1, 1L", "int a, long b", "long a, int b", 101}, {"1L, 1", "int a, long b", "long a, int b", 102},
            {"1L, 1L", "int a, long b", "long a, int b", -1}, {"1, 1", "int a, long b", "long a, long b", 101}, {"1, 1", "long a, long b", "long a, int b", 102},
            {"'a', 1", "char a, long b", "int a, int b", -1}, {"'a', 1", "char a, int b", "int a, long b", 101}, {"true, 1", "boolean a, int b", "boolean a, long b", 101},
            {"true", "boolean a", "long a", 101}, {"1", "boolean a", "long a", 102}, {"1", "int a", "int a, int b", 101}, {"1, 1", "int a", "int a, int b", 102},
            {"'a', 'a'", "int a, char b", "char a, int b", -1}, {"'a', 'a', 1", "int a, int b, long c", "int a, int b, int c", 102},
            {"1, 1, 1, 1, 1, 1", "int a, int b, int c, int d, int e, long g", "int a, int b, int c, int d, int e, int g", 102},
            {"1, 1, 1, 1, 1, 1", "long a, int b, int c, int d, int e, int g", "int a, int b, int c, int d, int e, long g", -1}};
        for (Object[] row : rows) {
            String text = "void m() { @f(" + row[0] + "); } void f(" + row[1] + ") { } void f(" + row[2] + ") { }";
            if ((Integer) row[3] < 0) {
                due.error(6, text);
            } else {
                PlainJava x = Due.of(text.replace("@", ""));
                due.same("judge() of " + text, x.judge(), 0);
                due.same("means of f in " + text, x.means(5), (Integer) row[3]);
            }
        }
        // a third one that all are WIDER than makes it one
        PlainJava x = Due.of("void m() { f(1, 1); } void f(int a, long b) { } void f(long a, int b) { } void f(int a, int b) { }");
        due.same("means of f", x.means(5), 103);
        PlainJava y = Due.of("void m() { out(1); out(1L); in(); } void out(int a) { }");
        due.same("means of out(1)", y.means(5), 101);
        due.same("means of out(1L)", y.means(10), 110);
        due.same("means of in()", y.means(15), 111);
        due.same("means of the second out told", y.means(21), 101);
        // "of two with the same params, which 1 tells, either"
        due.error(1, "void m() { f(1); } void f(int a) { } void @f(int a) { }");
        due.error(1, "void @out(long a) { } void m() { out(1); }");
    }

    /** "7 an assignment, ++ or -- of a final variable (at its NAME)" */
    private static void finals(Due due) {
        for (String use : new String[] {"@a = 1;", "@a += 1;", "@a -= 1;", "@a *= 1;", "@a /= 1;", "@a %= 1;", "@a &= 1;", "@a |= 1;", "@a ^= 1;", "@a <<= 1;", "@a >>= 1;", "@a >>>= 1;",
            "@a++;", "@a--;", "++@a;", "--@a;", "out(@a = 1);", "out(1 + @a++);", "int b = -(--@a);", "for (; ; @a++) ;", "for (@a = 1; ; ) ;"}) {
            due.error(7, Due.m("final int a = 1; " + use));
            due.error(7, "void m(final int a) { " + use + " }");
            due.fine(Due.m("int a = 1; " + use.replace("@", "").replace("for (; ;", "for (; a < 1;").replace("; ; )", "; a < 2; )")));
        }
        due.error(7, Due.m("for (final int i = 1; ; @i++) ;"));
        due.error(7, Due.m("for (final int i = 1; ; ) @i = 2;"));
        due.fine("void m(int a) { a = 1; try { } catch (e) { e = 2; e++; } for (int i = 0; i < 1; i++) i += 1; }");
        due.error(7, Due.m("final long a = in(); @a = 1;"));
    }

    /** "8 a case that is no CONSTANT or does not FIT the switch's type, or has a value told before in it; a second default" */
    private static void cases(Due due) {
        due.error(8, "void m(int a) { switch (a) { case @a: } }");
        due.error(8, "void m(final int a) { switch (a) { case @a: } }");
        due.error(8, Due.m("int k = 1; switch (1) { case @k: }"));
        due.error(8, Due.m("final int k = in(); switch (1) { case @k: }"));
        due.error(8, Due.m("switch (1) { case @in(): }"));
        due.error(8, Due.m("switch (1) { case 1: case @1 / 0: }"));
        due.error(8, Due.m("switch (1) { case @true: }"));
        due.error(8, Due.m("switch (1) { case @-1L: }"));
        due.error(8, Due.m("switch (1) { case 1: case @1: }"));
        due.error(8, Due.m("switch (1) { case 1: case 2: case 3: case @1: }"));
        due.error(8, Due.m("switch (1) { case 1: case 2: ; case @2: case 1: }"));
        due.error(8, Due.m("switch (1) { case 1: default: case @3 - 2: }"));
        due.error(8, Due.m("switch (1) { case 'a': case @97: }"));
        due.error(8, Due.m("final char k = 'a'; switch ('b') { case k: case @'a': }"));
        due.error(8, Due.m("switch ((byte) 1) { case -1: case @(byte) 255: }"));
        due.error(8, Due.m("switch ((byte) 1) { case @(char) 65535: }"));
        due.error(8, Due.m("switch (1) { case 0: case @-0: }"));
        due.error(8, Due.m("switch (1) { default: @default: }"));
        due.error(8, Due.m("switch (1) { case 1: default: case 2: ; @default: default: }"));
        due.fine(Due.m("switch (1) { case 2147483647: case -2147483648: case 0: case -1: case 'a': case (byte) 98: default: }"));
        due.fine(Due.m("switch (1) { case 1: switch (1) { case 1: default: } default: switch (1) { default: case 1: } }"));
        due.fine(Due.m("switch (1) { case 1: default: } switch (1) { case 1: default: }"));
        due.fine(Due.m("switch (1) { } switch (1) { default: } switch (1) { case 1: }"));
    }

    /** "9 break without a switch, a loop around it, continue without a loop (at the word); of a NAME that is none .." */
    private static void breaksAndContinues(Due due) {
        for (String word : new String[] {"break", "continue"}) {
            due.error(9, Due.m("@" + word + ";"));
            due.error(9, Due.m("{ if (in() > 1) @" + word + "; }"));
            due.error(9, Due.m("l: { @" + word + "; }"));
            due.error(9, Due.m("while (in() > 1) ; @" + word + ";"));
            due.error(9, Due.m("do { } while (in() > 1); @" + word + ";"));
            due.error(9, Due.m("for (; in() > 1; ) { } @" + word + ";"));
            due.error(9, Due.m("try { @" + word + "; } finally { }"));
            due.error(9, Due.m(word + " @l;"));
            due.error(9, Due.m("while (in() > 1) " + word + " @l;"));
            due.error(9, Due.m("l: ; while (in() > 1) " + word + " @l;"));
            due.error(9, Due.m("l: while (in() > 1) ; while (in() > 1) " + word + " @l;"));
            due.error(9, Due.m("k: while (in() > 1) " + word + " @l;"));
            due.error(9, Due.m("while (in() > 1) { " + word + " @l; l: ; }"));
            due.error(9, "void n() { l: while (in() > 1) ; } void m() { while (in() > 1) " + word + " @l; }");
            due.error(9, "void m() { l: while (in() > 1) m(); } void n() { " + word + " @l; }");
            due.error(9, "void n() { while (in() > 1) ; } void m() { @" + word + "; }");
            due.fine(Due.m("while (in() > 1) " + word + ";"));
            due.fine(Due.m("while (in() > 1) { { if (in() > 2) " + word + "; } }"));
            due.fine(Due.m("do " + word + "; while (in() > 1);"));
            due.fine(Due.m("for (; in() > 1; ) " + word + ";"));
            due.fine(Due.m("for (; in() > 1; ) try { " + word + "; } catch (e) { " + word + "; } finally { if (in() > 1) " + word + "; }"));
            due.fine(Due.m("l: while (in() > 1) " + word + " l;"));
            due.fine(Due.m("l: do " + word + " l; while (in() > 1);"));
            due.fine(Due.m("l: for (; in() > 1; ) " + word + " l;"));
            due.fine(Due.m("l: while (in() > 1) while (in() > 2) " + word + " l;"));
            due.fine(Due.m("l: while (in() > 1) switch (1) { case 1: k: { " + word + " l; } }"));
        }
        due.fine(Due.m("switch (1) { case 1: break; }"));
        due.error(9, Due.m("switch (1) { case 1: @continue; }"));
        due.fine(Due.m("while (in() > 1) switch (1) { case 1: continue; }"));
        due.error(9, Due.m("switch (1) { } @break;"));
        // break of the NAME of any S, continue only of one whose S is itself a loop
        due.fine(Due.m("l: break l;"));
        due.fine(Due.m("l: { break l; }"));
        due.fine(Due.m("l: if (in() > 1) break l; k: switch (1) { case 1: break k; } j: try { break j; } finally { } h: g: break h;"));
        due.error(9, Due.m("l: { continue @l; }"));
        due.error(9, Due.m("l: { while (in() > 1) continue @l; }"));
        due.error(9, Due.m("l: if (in() > 1) while (in() > 1) continue @l;"));
        due.error(9, Due.m("l: k: while (in() > 1) continue @l;"));
        due.error(9, Due.m("while (in() > 1) l: { continue @l; }"));
        due.error(9, Due.m("l: switch (1) { case 1: continue @l; }"));
        due.fine(Due.m("l: k: while (in() > 1) continue k;"));
        due.fine(Due.m("l: k: while (in() > 1) break l;"));
    }

    /** "10 a NAME: within one of the same." */
    private static void labels(Due due) {
        due.error(10, Due.m("l: @l: ;"));
        due.error(10, Due.m("l: { @l: ; }"));
        due.error(10, Due.m("l: k: j: @k: ;"));
        due.error(10, Due.m("l: while (in() > 1) { if (in() > 2) ; else @l: ; }"));
        due.error(10, Due.m("l: switch (1) { case 1: @l: ; }"));
        due.error(10, Due.m("l: try { } catch (e) { } finally { @l: ; }"));
        due.error(10, Due.m("l: try { @l: ; } catch (e) { l: ; }"));
        due.fine(Due.m("l: ; l: ; { l: ; } l: { k: ; } k: { l: ; }"));
        due.fine("void m() { l: ; } void n() { l: ; }");
        due.fine("void l(int l) { l: l(l); }");
    }

    /** "11 return with an exp in a void method, without one in another one (at return)" */
    private static void returns(Due due) {
        due.error(11, Due.m("@return 1;"));
        due.error(11, Due.m("@return true;"));
        due.error(11, Due.m("if (in() > 1) return; @return in();"));
        due.error(11, Due.m("@return out(1);"));
        due.fine(Due.m("return;"));
        for (String type : Due.TYPES) {
            due.error(11, type + " m() { @return; }");
            due.error(11, "void n() { } " + type + " m() { while (true) { @return; } }");
            due.fine(type + " m(" + type + " a) { return a; } void n() { return; }");
        }
    }

    /** "12 an exp as S, or of for's exps, that is no assignment, ++, --, call (at its first token)" */
    private static void expsAsS(Due due) {
        for (String exp : new String[] {"1", "'a'", "true", "a", "(a)", "(a = 1)", "(a++)", "(in())", "-a", "~a", "+a", "!true", "(int) a", "(int) in()", "a + 1", "in() + in()",
            "a == 1", "a < 1", "true && true", "true ? in() : in()", "a + (a = 1)", "a++ + 1", "1L"}) {
            due.error(12, Due.m("int a = 1; @" + exp + ";"));
            due.error(12, Due.m("int a = 1; if (in() > 1) @" + exp + ";"));
            due.error(12, Due.m("int a = 1; for (@" + exp + "; ; ) ;"));
            due.error(12, Due.m("int a = 1; for (a = 1, @" + exp + "; ; ) ;"));
            due.error(12, Due.m("int a = 1; for (; ; @" + exp + ") ;"));
            due.error(12, Due.m("int a = 1; for (; ; a++, in(), @" + exp + ", a++) ;"));
        }
        for (String exp : new String[] {"a = 1", "a += 1", "a >>>= 1", "a++", "++a", "a--", "--a", "in()", "out(1)", "m()", "a = a = 1", "a = -a"}) {
            due.fine(Due.m("int a = 1; " + exp + "; for (" + exp + ", " + exp + "; a > 1; " + exp + ", " + exp + ") " + exp + ";"));
        }
        due.fine(Due.m("int a = 1 + 1; for (int b = 1 + 1; b < 1; ) ; if (in() > 1) return;"));
    }

    // ---- which of several

    /** "the one with the least place" */
    private static void theLeastPlace(Due due) {
        // in the text's order, not in that of the numbers
        due.error(12, Due.m("@1; break; l: l: ; final int a = 1; a = 2; f(); int b = true; 9999999999; x; int a;"));
        due.error(11, Due.m("@return 1; break; x = 1;"));
        due.error(10, Due.m("l: @l: ; break; f(); x = 1;"));
        due.error(9, Due.m("@break; f(); x = 1; int a; int a;"));
        due.error(8, Due.m("switch (1) { default: @default: } f(); x = 1;"));
        due.error(7, Due.m("final int a = 1; @a = 2; f(); x = 1; int a;"));
        due.error(6, Due.m("@f(); int b = true; out(9999999999); x = 1;"));
        due.error(5, Due.m("int b = @true; out(9999999999); x = 1; int b;"));
        due.error(4, Due.m("out(@9999999999); x = 1; int b; int b;"));
        due.error(3, Due.m("@x = 1; int b; int b; out(9999999999);"));
        due.error(2, "void m() { int b; int @b; } void m() { }");
        due.error(1, "void m() { } void @m() { int b; int b; x = 1; }");
        due.error(3, "void m() { @x = 1; } void m() { }");
        due.error(12, "void m() { @1; } void m() { } void n(int a, int a) { }");
        due.error(2, "void m(int a, int @a) { } void m(int a, int b) { }");
        // within one exp, one S
        due.error(3, Due.m("out(@x + 9999999999 + y);"));
        due.error(4, Due.m("out(@9999999999 + x);"));
        due.error(6, Due.m("out(@f() + x);"));
        due.error(3, Due.m("@x = y;"));
        due.error(7, Due.m("final int a = 1; @a = x;"));
        due.error(3, Due.m("for (; ; @x++) { y = 1; }"));
        due.error(3, Due.m("do { @y = 1; } while (x);"));
        due.error(5, Due.m("if (@1) x = 1;"));
        due.error(3, Due.m("if (in() > @x) y = 1; else z = 1;"));
        due.error(8, Due.m("switch (1) { case 1: case @1: x = 1; }"));
        due.error(3, Due.m("switch (1) { case 1: @x = 1; case 1: }"));
        due.error(5, Due.m("switch (@1L) { case 1: case 1: case 1L: default: default: }"));
    }

    /** "of one place the least" */
    private static void ofOnePlaceTheLeast(Due due) {
        due.error(3, Due.m("@x;"));
        due.error(3, Due.m("@x + 1;"));
        due.error(4, Due.m("@9999999999;"));
        due.error(4, Due.m("@9999999999 + 1;"));
        due.error(5, Due.m("@true + 1;"));
        due.error(5, Due.m("@1 && true;"));
        due.error(5, Due.m("@1 ? 1 : 2;"));
        due.error(6, Due.m("@f() + 1;"));
        due.error(5, Due.m("final boolean a = true; @a++;"));
        due.error(5, Due.m("final boolean a = true; @++a;"));
        due.error(5, Due.m("final boolean a = true; @a += 1;"));
        due.error(7, Due.m("final int a = 1; @a++ + 1;"));
        due.error(3, Due.m("for (@x; ; ) ;"));
        due.error(3, Due.m("switch (1) { case @x: }"));
        due.error(4, Due.m("switch (1) { case @9999999999: }"));
        due.error(5, Due.m("switch (1) { case @true + 1: }"));
        due.error(6, Due.m("switch (1) { case @f(): }"));
    }

    /** "What is at fault, its exp around it, tells no other ERROR of types (5, 8, 11) of what it stands in" */
    private static void whatIsAtFaultTellsNoMore(Due due) {
        Object[][] faults = {{3, "@x"}, {4, "@9999999999"}, {6, "@f()"}, {5, "(1 + @true)"}, {5, "-@true"}, {7, "(@k = 2)"}, {7, "(@k += 2)"}, {7, "(@k <<= 2)"}, {7, "@k++"}, {7, "--@k"}, {3, "(@x + 1)"}, {3, "(byte) @x"},
            {3, "(@x ? 1 : 2)"}, {3, "(in() > 1 ? 1 : @x)"}, {3, "out(@x)"}, {6, "in(@f())"}, {3, "(v = @x)"}, {5, "(v = @true)"}, {3, "(v += @x)"}, {3, "in(1, @x)"}};
        for (Object[] row : faults) {
            int error = (Integer) row[0];
            String exp = (String) row[1];
            String told = "final int k = 1; int v = 1; boolean o = true; ";
            for (String around : new String[] {"boolean b = (#);", "byte b = 1 + (#) * 2;", "boolean b = 1 + (#) < 3 & true;", "o = #;", "v = #;", "o &= #;", "if (#) ;", "while (#) ;",
                "do ; while (#);", "for (; #; ) ;", "switch (#) { case 1: case 2: }", "throw #;", "out(#);", "boolean b = !(#);", "v = ~(#);", "v = 1 + (#);", "v = 1 << (#);",
                "o = true && (#);", "o = true == (#);", "v = (#) == 1 ? 1 : 2;", "o = (#);", "v = true ? 1 : #;", "o = true ? false : #;", "switch (1) { case #: }", "switch (1) { case 1 + (#): }",
                "return #;", "return 1 + (#);", "out(-(#));", "out((int) (#));", "boolean b = (boolean) (#);"}) {
                due.error(error, Due.m(told + around.replace("#", exp)));
            }
            due.error(error, "boolean m() { " + told + "return " + exp + "; }");
            due.error(error, "byte m() { " + told + "return 1000 + (" + exp + "); }");
            // "a call tells none if an argument is at fault"
            due.error(error, Due.m(told + "f(" + exp + ");"));
            due.error(error, Due.m(told + "in(" + exp + ");"));
            due.error(error, Due.m(told + "out(1, " + exp + ");"));
            due.error(error, Due.m(told + "out(true, 1, " + exp + ");"));
            due.error(error, Due.m(told + "f(" + exp + ", 1);"));
            due.error(error, Due.m(told + "in(1, " + exp + ", true);"));
            due.error(error, Due.m(told + "o = out(" + exp + ", 1, 2);"));
            due.error(error, Due.m(told + "boolean b = in(" + exp + ");"));
        }
    }

    /** What is not at fault itself still tells its own ERROR. */
    private static void andOthersDo(Due due) {
        due.error(5, Due.m("out(@true + x);"));
        due.error(5, Due.m("out(1 + (@true - x));"));
        due.error(5, Due.m("boolean b = @1 && x;"));
        due.error(5, Due.m("boolean b = @1 || x;"));
        due.error(5, Due.m("boolean b = @true < x;"));
        due.error(5, Due.m("int b = @true << x;"));
        due.error(5, Due.m("int b = @1 ? x : y;"));
        due.error(3, Due.m("int b = true ? @x : y;"));
        due.error(5, Due.m("boolean b = true; @b += x;"));
        // an S tells what is its own, whatever its exp is
        due.error(12, Due.m("@1 + x;"));
        due.error(12, Due.m("@-x;"));
        due.error(12, Due.m("@(x);"));
        due.error(9, Due.m("@break; x = 1;"));
        due.error(8, Due.m("switch (1) { default: @default: x = 1; }"));
        due.error(8, Due.m("switch (1) { case @true: case x: }"));
        due.error(8, Due.m("switch (1) { case 1: case @1: case x: }"));
        due.error(2, Due.m("int a; int @a = x;"));
        // what stands beside it in a row of its own
        due.error(5, Due.m("for (int i = @true; x; y++) ;"));
        due.error(5, Due.m("if (@1) out(x);"));
    }

    /** "If there is none of these: 13 .., 14 .. If there is none of these either: 15" */
    private static void laterOnesOnlyWithoutEarlier(Due due) {
        due.error(12, "int m() { int a; out(a); return 1; ; } void n() { @1; }");
        due.error(1, "int m() { } void m(int a) { return; ; } void @m(int b) { }");
        due.error(13, "void m() { int a; out(a); return; @; }");
        due.error(14, "void m() { int a; out(a); } int @n() { }");
        due.error(14, "int @m() { int a; out(a); }");
        due.error(13, "void m() { int a; out(a); } void n() { return; @out(1); } int o() { }");
        due.error(14, "int @m() { } void n() { return; ; }");
        due.error(15, "void m() { int a; out(@a); } int n() { return 1; }");
        due.error(15, "void m() { int a; out(@a); out(a); int b; out(b); }");
    }

    // ---- what is asked

    /** Promise 11: "BAD: no NAME (looked at first); NO: the program has an ERROR." */
    private static void meansIsLookedAtFirst(Due due) {
        for (int error = 0; error <= 1; error++) {
            String text = "void m(int a) { l: out('c' + 12 + a); " + (error == 1 ? "x++; " : "") + "}";
            PlainJava x = Due.of(text);
            int i = 0;
            for (int[] token : Due.tokens(text)) {
                String t = text.substring(token[0], token[1]);
                boolean isName = t.equals("m") || t.equals("a") || t.equals("l") || t.equals("out") || t.equals("x");
                int means = t.equals("m") ? 100 : t.equals("a") ? 0 : t.equals("l") ? 200 : 110;
                due.same("means of " + t + " in " + text, x.means(i), !isName ? PlainJava.BAD : error == 1 ? PlainJava.NO : means);
                i++;
            }
            for (int none : new int[] {-1, i, i + 1, 499, 500, 501, 502, 503, Integer.MAX_VALUE, Integer.MIN_VALUE}) {
                due.same("means(" + none + ")", x.means(none), PlainJava.BAD);
            }
        }
    }

    /** Each of the ERRORS 1 to 15 is one that promises 11 to 15 and 19 look at, also before judge() has told it. */
    private static void whateverErrorItIs(Due due) {
        String[] rows = {"", "} void m() {", "int a;", "x = 1;", "a = 9999999999;", "a = true;", "m(1);", "k = 1;", "switch (1) { default: default: }", "break;", "l: l: ;", "return 1;", "1;",
            "return; ;", "} int n() {", "int v; out(v);"};
        for (int error = 0; error < rows.length; error++) {
            String text = "void m() { int a = 5; final int k = 7; out(k + 1); " + rows[error] + " }";
            for (int round = 0; round < 2; round++) {
                PlainJava x = Due.of(text);
                if (round == 1) {
                    due.same("judge() of " + text, x.judge(), error);
                }
                boolean is = error > 0;
                due.same("means in " + text, x.means(6), is ? PlainJava.NO : 0);
                due.same("means of no NAME in " + text, x.means(5), PlainJava.BAD);
                due.same("type in " + text, x.type(8, 8), is ? PlainJava.NO : 3);
                due.same("type of none in " + text, x.type(0, 0), is ? PlainJava.NO : PlainJava.BAD);
                due.same("constant in " + text, x.constant(8, 8), is ? Due.NOTHING : 5);
                due.same("constant of k + 1 in " + text, x.constant(18, 20), is ? Due.NOTHING : 8);
                due.same("ends in " + text, x.ends(5), is ? PlainJava.NO : 1);
                due.same("ends of none in " + text, x.ends(0), is ? PlainJava.NO : PlainJava.BAD);
                due.same("assigned in " + text, x.assigned(10, 0), is ? PlainJava.NO : 1);
                due.same("assigned of none in " + text, x.assigned(0, 0), is ? PlainJava.NO : PlainJava.BAD);
                due.same("run of " + text, x.run(0, 99), is ? PlainJava.NO : 0);
                due.same("run of none in " + text, x.run(2, 99), PlainJava.BAD);
                due.same("ran(10) of " + text, x.ran(10), is ? Due.NOTHING : 8);
                due.same("variable in " + text, x.variable(1, 2), 1);
                due.same("method in " + text, x.method(0, 1), 5);
            }
        }
    }

    /** Promises 7 to 10 know no ERROR; 12 to 15 and 19 do: which of BAD and NO is looked at first. */
    private static void whatIsAskedWithAnError(Due due) {
        for (String text : new String[] {"int m(int a) { int b = a; x = 1; return b; }", "int m(int a) { int b = a; return b; ; }", "int m(int a) { int b; int c = b; return a; }",
            "int m(int a) { int b = a; a = 1; }"}) {
            PlainJava x = Due.of(text);
            due.same("judge() is told only when asked: place()", x.place(), PlainJava.NO);
            due.same("told(0)", x.told(0), Due.tokens(text).size());
            due.same("told(1)", x.told(1), 1);
            due.same("told(2)", x.told(2), text.contains("c = b") ? 3 : 2);
            due.same("token(1, 2)", x.token(1, 2), 1);
            due.same("method(0, 10)", x.method(0, 10), 3);
            due.same("variable(1, 0)", x.variable(1, 0), 8);
            for (int[] pair : new int[][] {{0, 0}, {10, 10}, {-1, -1}, {9999, 1}, {3, 500}}) {
                due.same("type", x.type(pair[0], pair[1]), PlainJava.NO);
                due.same("constant", x.constant(pair[0], pair[1]), Due.NOTHING);
                due.same("ends", x.ends(pair[0]), PlainJava.NO);
                due.same("assigned", x.assigned(pair[0], pair[1]), PlainJava.NO);
            }
            due.same("run", x.run(0, 1), PlainJava.NO);
            due.same("run, limit", x.run(0, 20000), PlainJava.NO);
            for (int[] pair : new int[][] {{1, 1}, {-1, 1}, {0, 0}, {0, 20001}, {0, -1}, {10, 1}, {11, 1}, {Integer.MIN_VALUE, 1}, {0, Integer.MAX_VALUE}}) {
                due.same("run(" + pair[0] + ", " + pair[1] + ")", x.run(pair[0], pair[1]), PlainJava.BAD);
            }
            due.same("ran(1)", x.ran(1), Due.NOTHING);
            due.same("place()", x.place(), PlainJava.NO);
            due.same("judge()", x.judge() > 0 ? 1 : 0, 1);
        }
    }
}
