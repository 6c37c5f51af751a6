/** Promises 4 and 5: which texts are read, and which FAULT the others have, at which place. */
final class ReadTest {
    public static void main(String[] args) {
        Due due = new Due();
        tokens(due);
        grammar(due);
        limits(due);
        depths(due);
        theProgramStays(due);
        due.end();
    }

    private static void tokens(Due due) {
        due.fault(1, "void @abcdefghijk() { }");
        due.readable("void abcdefghij() { }", 1);
        due.fault(1, Due.m("out(@12345678901234567890);"));
        due.readable(Due.m("out(1234567890123456789);"), 1);
        due.readable(Due.m("out(1234567890123456789L);"), 1);
        due.fault(2, Due.m("out(1@l);"));
        due.fault(2, Due.m("out(1L@L);"));
        due.fault(2, Due.m("out(12@a);"));
        due.fault(1, Due.m("out(@'');"));
        due.fault(1, Due.m("out(@''');"));
        due.fault(1, Due.m("out(@'\\');"));
        due.fault(1, Due.m("out(@'ab');"));
        due.fault(1, Due.m("out(@'\u007f');"));
        due.fault(1, Due.m("out(@'\t');"));
        due.fault(1, "void m() { out(@'a");
        due.readable(Due.m("out(' '); out('~'); out('\"'); out('/');"), 1);
        due.fault(1, Due.m("out(@#);"));
        due.fault(1, Due.m("out(@_a);"));
        due.fault(1, Due.m("out(@\u00e4);"));
        due.fault(1, "void m() @[ }");
        due.fault(1, "@\u0000void m() { }");
        due.readable("void\tm\r(\n)//{ x # '\n{} // the end", 1);
        due.fault(2, "void m() { // }");
        due.fault(2, Due.m("int a = 3/@*4;"));
        due.readable(Due.m("a+++b; a<<b; a<<=b; a>>>b; a>>>=b; a>>=b; a- --b; a---b; a&&b; a&b; a||b; a|b;"), 1);
        due.readable(Due.m("a<b; a<=b; a!=b; a==b; a^=b; a|=b; a&=b; a%=b; a/=b; a*=b; a-=b; a+=b; !a; ~a;"), 1);
        due.fault(2, Due.m("a<<@<b;"));
        due.fault(2, Due.m("x = @= 3;"));
        due.fault(2, Due.m("int @while = 3;"));
        due.readable("void m() { int While = 3; int shorty = 4; int class0 = 5; }", 1);
        // the first one that reading meets
        due.fault(2, "void m(@{ } #");
        due.fault(1, "void m@# ( {");
    }

    private static void grammar(Due due) {
        due.readable("", 0);
        due.readable(" // nothing", 0);
        due.fault(2, "int   ");
        due.fault(2, "@voi d() { }");
        due.fault(2, "@final void m() { }");
        due.fault(2, "void m() { } @x");
        due.fault(2, "void m(@{ }");
        due.fault(2, "void m(int a,@) { }");
        due.fault(2, "void m(@void a) { }");
        due.readable("long m(final boolean a, byte b, char c) { } void n() { }", 2);
        due.fault(2, Due.m("int@; "));
        due.fault(2, Due.m("a @b;"));
        due.fault(2, Due.m("final int a@;"));
        due.fault(2, Due.m("int a = 3@, b;"));
        due.fault(2, Due.m("if (true) @int a = 3;"));
        due.fault(2, Due.m("@else ;"));
        due.fault(2, Due.m("@case 1: ;"));
        due.fault(2, Due.m("@catch (e) { }"));
        due.fault(2, "void m() { try { } @}");
        due.fault(2, Due.m("try @; catch (e) { }"));
        due.fault(2, Due.m("try { } catch (@int e) { }"));
        due.readable(Due.m("try { } catch (e) { } try { } finally { } try { } catch (e) { } finally { }"), 1);
        due.fault(2, Due.m("switch (1) { @out(1); }"));
        due.readable(Due.m("switch (1) { } switch (1) { case 1: int a; ; default: }"), 1);
        due.fault(2, Due.m("for (int i = 0@, j = 1; ; ) ;"));
        due.readable(Due.m("for (;;) ; for (x = 0, y = 1; x < 3; x++, y++) ; for (final int i = 0; ; ) ;"), 1);
        due.fault(2, Due.m("for (; @) ;"));
        due.fault(2, "void m() { do ; while (false) @}");
        due.fault(2, Due.m("throw@; "));
        due.readable(Due.m("break; break a; continue; continue a; return; return 1; throw 1;"), 1);
        due.fault(2, Due.m("break @1;"));
        due.readable(Due.m("l: m: n: ;"), 1);
        due.fault(2, Due.m("l: @int a;"));
        due.fault(2, Due.m("(x) @= 3;"));
        due.fault(2, Due.m("a + b @= 3;"));
        due.fault(2, Due.m("a ? b : c @= 3;"));
        due.readable(Due.m("a ? b = 1 : c; a = b = c; a = b ? c : d ? e : f;"), 1);
        due.fault(2, Due.m("x++ @++;"));
        due.fault(2, Due.m("++x@++;"));
        due.fault(2, Due.m("++@(x);"));
        due.fault(2, Due.m("f()@++;"));
        due.fault(2, Due.m("1 + @;"));
        due.fault(2, Due.m("f(1,@);"));
        due.fault(2, Due.m("out((int) (long) 3); out((boolean) true); out((@void) 3);"));
        due.fault(2, Due.m("(int @a) 3;"));
        due.readable(Due.m("if (a) if (b) ; else ; else ;"), 1);
        due.fault(2, Due.m("if (a) if (b) ; else ; else ; @else ;"));
    }

    private static void limits(Due due) {
        due.readable("void m(int a, int b, int c, int d, int e, int f) { }", 1);
        due.fault(3, "void m(int a, int b, int c, int d, int e, int f, int @g) { }");
        due.fault(2, "void m(int a, int b, int c, int d, int e, int f, int @) { }");
        StringBuilder methods = new StringBuilder();
        for (int i = 0; i < 10; i++) {
            methods.append("int m").append(i).append("() { } ");
        }
        due.readable(methods.toString(), 10);
        due.fault(3, methods + "void @m() { }");
        due.fault(2, methods + "void @(");
        due.fault(2, methods + "@final");
        // 59 variables, among them params and catch's NAMES, then the 60th and 61st
        StringBuilder told = new StringBuilder("void n(int a, int b) { try { } catch (e) { } ");
        for (int i = 3; i < 59; i++) {
            told.append("int v").append(i).append("; ");
        }
        due.readable(told + "int x; }", 1);
        due.fault(3, told + "int x; int @y; }");
        due.fault(2, told + "int x; int @; }");
        due.fault(3, told + "int x; try { } catch (@e) { } }");
        due.fault(3, told + "int x; } void o(int @a) { }");
        due.fault(3, told + "int x; for (byte @y = 1; ; ) ; }");
        // 7 tokens and 493: 500; then the 501st
        due.readable("void m() { x" + Due.repeated(";", 493) + "}", 1);
        due.fault(3, "void m() { x" + Due.repeated(";", 494) + "@}");
        due.fault(3, "void m() { x" + Due.repeated(";", 494) + "@;}");
        due.fault(2, "void m() { x" + Due.repeated(";", 494) + "@)}");
        due.fault(1, "void m() { x" + Due.repeated(";", 494) + "@#}");
        due.fault(2, "void m() { x" + Due.repeated(";", 494));
        due.fault(3, "void m() { x" + Due.repeated(";", 493) + "} @int");
        due.fault(2, "void m() { x" + Due.repeated(";", 493) + "} @x");
        due.readable("void m() { x" + Due.repeated(";", 493) + "} // more", 1);
    }

    /** What stands within 20 others, and within 21 (the method's block is the first of them). */
    private static void depths(Due due) {
        nested(due, "{ ", "x;", " }", 19);
        nested(due, "if (a) ", ";", "", 19);
        nested(due, "if (a) ; else ", ";", "", 19, "if (a) @; else ");
        nested(due, "while (a) ", ";", "", 19);
        nested(due, "do ", ";", " while (a);", 19);
        nested(due, "for (;;) ", ";", "", 19);
        nested(due, "l: ", ";", "", 19);
        nested(due, "switch (a) { case 1: ", ";", " }", 19, "switch (a) { @case 1: ");
        nested(due, "try { ", ";", " } finally { }", 19);
        nested(due, "try { } catch (e) { ", ";", " }", 19, "try { @} catch (e) { ");
        nested(due, "x = ", "1", "", 19, null, ";");
        nested(due, "x += ", "1", "", 19, null, ";");
        nested(due, "(", "1", ")", 19, null, ";");
        nested(due, "f(", "1", ")", 19, null, ";");
        nested(due, "f(2, ", "1", ")", 19, "f(@2, ", ";");
        nested(due, "- ", "1", "", 19, null, ";");
        nested(due, "~", "1", "", 19, null, ";");
        nested(due, "(int) ", "1", "", 19, null, ";");
        nested(due, "a ? ", "1", " : 2", 19, null, ";");
        nested(due, "a ? 1 : ", "2", "", 19, "a ? @1 : ", ";");
        // a told is within as much as an S is, and what is behind its = is within no more
        due.readable(Due.m(Due.repeated("{", 19) + "int a = 1 + 2;" + Due.repeated("}", 19)), 1);
        due.fault(3, Due.m(Due.repeated("{", 20) + "@int a = 1;" + Due.repeated("}", 20)));
        due.fault(3, Due.m(Due.repeated("{", 19) + "int a = (@1);" + Due.repeated("}", 19)));
        // a } right behind the 21st one is too much as well
        due.readable(Due.m(Due.repeated("{", 19) + Due.repeated("}", 19)), 1);
        due.fault(3, Due.m(Due.repeated("{", 20) + "@}" + Due.repeated("}", 19)));
        due.readable(Due.m(Due.repeated("{", 18) + "switch (1) { }" + Due.repeated("}", 18)), 1);
        due.fault(3, Due.m(Due.repeated("{", 19) + "switch (1) { @}" + Due.repeated("}", 19)));
        due.fault(3, Due.m(Due.repeated("{", 19) + "try { @} finally { }" + Due.repeated("}", 19)));
        due.readable(Due.m(Due.repeated("(", 18) + "f()" + Due.repeated(")", 18) + ";"), 1);
        // whatever the token is, but 1 goes ahead
        due.fault(3, Due.m(Due.repeated("{", 20) + "@else" + Due.repeated("}", 20)));
        due.fault(3, Due.m(Due.repeated("(", 20) + "@) + 1;"));
        due.fault(1, Due.m(Due.repeated("{", 20) + "@#" + Due.repeated("}", 20)));
        due.fault(1, Due.m(Due.repeated("(", 20) + "@'"));
        // operators, and what is in the ( ) of if and the like, are within no more
        due.readable(Due.m("if (" + Due.repeated("1 + ", 150) + Due.repeated("(", 19) + "1" + Due.repeated(")", 19) + ") ;"), 1);
        due.readable(Due.m("x = " + Due.repeated("1 || 1 && 1 | 1 ^ 1 & 1 == 1 < 1 << 1 + 1 * (", 18)
            + "1" + Due.repeated(")", 18) + ";"), 1);
        due.fault(3, Due.m("for (x = " + Due.repeated("(", 19) + "@1" + Due.repeated(")", 19) + "; ; ) ;"));
    }

    private static void nested(Due due, String ahead, String inner, String behind, int most) {
        nested(due, ahead, inner, behind, most, null, "");
    }

    private static void nested(Due due, String ahead, String inner, String behind, int most, String marked) {
        nested(due, ahead, inner, behind, most, marked, "");
    }

    /** As often as can be, and once more: the FAULT is at what is within, or where the last one is marked. */
    private static void nested(Due due, String ahead, String inner, String behind, int most, String marked, String end) {
        due.readable(Due.m(Due.repeated(ahead, most) + inner + Due.repeated(behind, most) + end), 1);
        String last = marked == null ? ahead + "@" : marked;
        due.fault(3, Due.m(Due.repeated(ahead, most) + last + inner + Due.repeated(behind, most + 1) + end));
    }

    private static void theProgramStays(Due due) {
        PlainJava x = Due.of("void one() { out(1); } void two() { }");
        due.same("told(1)", x.told(1), 2);
        due.same("run", x.run(0, 100), 0);
        Due.feed(x, "void broken(");
        due.same("read() with a FAULT", x.read(), -12);
        due.same("place() of it", x.place(), 12);
        due.same("the program stays: told(1)", x.told(1), 2);
        due.same("and what ran: ran(10)", x.ran(10), 1);
        due.same("the tape is empty", x.cut(0), 0);
        due.same("judge() of the one that stayed", x.judge(), 0);
        due.same("place() behind judge()", x.place(), PlainJava.NO);
        Due.feed(x, "void three() { x; }");
        due.same("read() of another one", x.read(), 1);
        due.same("place() of no FAULT", x.place(), PlainJava.NO);
        due.same("what ran was of the one before", x.ran(10), Due.NOTHING);
        due.same("judge()", x.judge(), 3);
        due.same("place()", x.place(), 15);
        due.same("read() of nothing", x.read(), 0);
        due.same("place() behind it", x.place(), PlainJava.NO);
        due.same("told(0)", x.told(0), 0);
    }
}
