/** Promise 6: the ERRORS 1 to 15, each at its place, and texts that have none. */
final class JudgeTest {
    public static void main(String[] args) {
        Due due = new Due();
        methodsAndNames(due);
        numbers(due);
        types(due);
        calls(due);
        finals(due);
        cases(due);
        jumps(due);
        returnsAndActs(due);
        whichOneIsTold(due);
        besideWhatIsAtFault(due);
        reached(due);
        reachedThroughTry(due);
        ends(due);
        assigned(due);
        assignedAlongConditions(due);
        assignedAlongJumps(due);
        due.end();
    }

    private static void methodsAndNames(Due due) {
        due.error(1, "void m() { } void @m() { }");
        due.error(1, "void m(int a) { } int @m(int b) { return 1; }");
        due.error(1, "void @out(long a) { }");
        due.error(1, "int @in() { return 1; }");
        due.fine("void m(int a) { } void m(long a) { } void m() { } void out(int a) { } void in(int a) { }");
        due.fine("void m(int a, long b) { } void m(long a, int b) { }");
        due.error(2, "void m(int a, int @a) { }");
        due.error(2, "void m(int a) { int @a; }");
        due.error(2, Due.m("int a = 1; { int @a = 2; }"));
        due.error(2, Due.m("try { } catch (e) { int @e; }"));
        due.error(2, "void m(int e) { try { } catch (@e) { } }");
        due.error(2, Due.m("for (int i = 0; ; ) { int @i; }"));
        due.error(2, Due.m("switch (1) { case 1: int a; case 2: int @a; }"));
        due.fine(Due.m("{ int a; } int a = 1;"));
        due.fine(Due.m("for (int i = 0; false || in() > 1; ) ; for (byte i = 0; in() > 1; ) ; int i;"));
        due.fine(Due.m("switch (1) { case 1: int a; } int a;"));
        due.fine(Due.m("try { int e; } catch (e) { } finally { int e; }"));
        due.fine("void m(int m) { m: m(m); }");
        due.error(3, Due.m("out(@q);"));
        due.error(3, Due.m("@a >>>= 3;"));
        due.error(3, Due.m("++@a;"));
        due.error(3, Due.m("{ int a = 1; } out(@a);"));
        due.error(3, Due.m("out(@a); int a = 1;"));
        due.error(3, Due.m("for (int i = 0; in() > 1; ) ; out(@i);"));
        due.error(3, Due.m("try { } catch (e) { } finally { out(@e); }"));
        due.error(3, "void m(int a) { } void n() { out(@a); }");
        due.error(3, Due.m("out(@m);"));
    }

    private static void numbers(Due due) {
        due.fine(Due.m("out(2147483647);"));
        due.error(4, Due.m("out(@2147483648);"));
        due.fine(Due.m("out(-2147483648); out(- // a remark\n 2147483648); out(- -2147483648);"));
        due.error(4, Due.m("out(-(@2147483648));"));
        due.error(4, Due.m("out(1 - @2147483648);"));
        due.error(4, Due.m("out(+@2147483648);"));
        due.error(4, Due.m("out(-@2147483649);"));
        due.fine(Due.m("out(2147483648L); out(9223372036854775807L); out(-9223372036854775808L);"));
        due.error(4, Due.m("out(@9223372036854775808L);"));
        due.error(4, Due.m("out(-@9223372036854775809L);"));
        due.error(4, Due.m("out(@9999999999999999999L);"));
        due.error(4, Due.m("out(-@9223372036854775808);"));
        due.error(4, Due.m("out(@1234567890123456789);"));
        due.fine(Due.m("out(0000000000000000001);"));
    }

    private static void types(Due due) {
        due.error(5, Due.m("out(1 + @true);"));
        due.error(5, Due.m("out(@true + 1);"));
        due.error(5, Due.m("boolean a = @true < false;"));
        due.error(5, Due.m("boolean a = true == @1;"));
        due.error(5, Due.m("boolean a = 1L != @true;"));
        due.error(5, Due.m("boolean a = true & @1;"));
        due.error(5, Due.m("boolean a = @1 && true;"));
        due.error(5, Due.m("boolean a = true || @1;"));
        due.error(5, Due.m("boolean a = !@1;"));
        due.error(5, Due.m("int a = ~@true;"));
        due.error(5, Due.m("int a = 1 << @true;"));
        due.error(5, Due.m("int a = (int) @true;"));
        due.error(5, Due.m("boolean a = (boolean) @1;"));
        due.error(5, Due.m("out(@1 ? 2 : 3);"));
        due.error(5, Due.m("out(true ? 1 : @2 ? 3 : 4);"));
        due.error(5, Due.m("out(true ? 1 : @false);"));
        due.error(5, Due.m("boolean a = true ? false : @1;"));
        due.error(5, Due.m("out(true ? @out(1) : out(2));"));
        due.error(5, Due.m("if (@1) ;"));
        due.error(5, Due.m("while (@'a') ;"));
        due.error(5, Due.m("do ; while (@out(1));"));
        due.error(5, Due.m("for (; @1L; ) ;"));
        due.error(5, Due.m("int a = @out(1);"));
        due.error(5, Due.m("int a = @(out(1));"));
        due.error(5, Due.m("out(@out(1));"));
        due.error(5, Due.m("int a = @1L;"));
        due.error(5, Due.m("byte a = @128;"));
        due.error(5, Due.m("byte a = @'a' + in();"));
        due.error(5, Due.m("char a = @-1;"));
        due.error(5, Due.m("byte a = 1; char b = @a;"));
        due.error(5, Due.m("int a = 1; byte b = @a;"));
        due.error(5, Due.m("byte a = @1L;"));
        due.error(5, Due.m("boolean a; a = @1;"));
        due.error(5, Due.m("boolean a = true; a &= @1;"));
        due.error(5, Due.m("int a = 1; a &= @true;"));
        due.error(5, Due.m("boolean a = true; @a += 1;"));
        due.error(5, Due.m("boolean a = true; @a <<= 1;"));
        due.error(5, Due.m("boolean a = true; @a++;"));
        due.error(5, Due.m("boolean a = true; @--a;"));
        due.error(5, Due.m("throw @true;"));
        due.error(5, Due.m("throw @1L;"));
        due.error(5, Due.m("switch (@1L) { }"));
        due.error(5, Due.m("switch (@true) { }"));
        due.error(5, "byte m() { return @128; }");
        due.error(5, "boolean m() { return @1; }");
        due.fine("byte m() { return 127; } char n() { final int a = 65; return a; } long o() { return 'a'; }");
        due.fine(Due.m("byte a = 127; byte b = -128; byte c = 'a'; char d = 65535; char e = (byte) 65; int f = 'a'; long g = f;"));
        due.fine(Due.m("byte a = 1; a += 300L; a <<= 3L; a++; char b = 'b'; b *= a; b >>>= 1; boolean c = true; c &= false; c ^= c;"));
        due.fine(Due.m("final int a = 5; byte b = a; byte c = a * 2 + 1; char d = true ? a : 70; byte e = in() > 1 ? b : 7;"));
        due.fine(Due.m("boolean a = true == false | 1L == 'a' ^ 2 < 3L; int b = (byte) 3L << 4L; boolean c = (boolean) a; throw 'a';"));
        due.fine(Due.m("switch ('a') { } switch ((byte) 1) { } switch (1) { }"));
        // a choice of byte and char is an int
        due.error(5, Due.m("byte a = 1; char b = 2; byte c = @in() > 1 ? a : b;"));
        due.error(5, Due.m("byte a = 1; byte b = @in() > 1 ? a : 128;"));
        due.error(5, Due.m("int a = 1; byte b = @true ? a : 5;"));
        due.error(5, Due.m("byte a = @true ? 1 : 1 / 0;"));
        due.error(5, Due.m("byte a = 1; byte b = @in() > 1 ? a : true ? 1 : 1 % 0;"));
    }

    private static void calls(Due due) {
        due.error(6, Due.m("@n();"));
        due.error(6, Due.m("@out();"));
        due.error(6, Due.m("@out(1, 2);"));
        due.error(6, Due.m("@out(true);"));
        due.error(6, "void a(int x, long y) { } void a(long x, int y) { } void m() { @a(1, 2); }");
        due.fine("void a(int x, long y) { } void a(long x, int y) { } void m() { a(1L, 2); a(1, 2L); }");
        due.fine("void a(int x, long y) { } void a(long x, int y) { } void a(int x, int y) { } void m() { a(1, 2); }");
        due.error(6, "void a(byte x) { } void m() { @a(1); }");
        due.error(6, "void a(boolean x) { } void m() { @a(1); }");
        due.error(6, "void a(byte x, int y) { } void a(int x, byte y) { } void m(byte b) { @a(b, b); }");
        due.fine("void m(byte b) { a('a', b); } void a(int x, int y) { } void a(byte x, long y) { a(x, 1L); }");
        due.error(6, "void m(byte b) { @a(b, b); } void a(int x, int y) { } void a(byte x, long y) { }");
        // of two with the same params either is meant, and only 1 is told
        due.error(1, "void a(int x) { } void @a(int x) { } void m() { a(1); }");
        due.error(1, "void m() { a(1); } void a(int x) { } void @a(int x) { }");
        // out(long) is one of those that are meant
        due.error(6, "void out(int a, long b) { } void m() { @out(1L, 1L); }");
        due.fine("int out(int a) { return a; } void m() { int a = out(1); out(1L); }");
    }

    private static void finals(Due due) {
        due.error(7, Due.m("final int a = 1; @a = 2;"));
        due.error(7, Due.m("final int a = 1; @a++;"));
        due.error(7, Due.m("final int a = 1; --@a;"));
        due.error(7, "void m(final int a) { @a += 1; }");
        due.error(7, Due.m("for (final int i = 0; ; @i++) ;"));
        due.error(5, Due.m("final boolean a = true; @a++;"));
        due.error(5, Due.m("final boolean a = true; @++a;"));
        due.fine(Due.m("try { } catch (e) { e = 2; e++; }"));
    }

    private static void cases(Due due) {
        due.error(8, Due.m("switch (1) { case 1: case 2: case @1: }"));
        due.error(8, Due.m("switch (1) { default: @default: }"));
        due.error(8, "void m(int x) { switch (1) { case @x: } }");
        due.error(8, Due.m("final int x = 3; switch (1) { case x: case @3: }"));
        due.error(8, Due.m("byte b = 1; switch (b) { case 127: case @128: }"));
        due.error(8, Due.m("switch (1) { case @true: }"));
        due.error(8, Due.m("switch (1) { case @1L: }"));
        due.error(8, Due.m("switch (1) { case @1 / 0: }"));
        due.error(8, Due.m("switch (1) { case @true ? 1 : 1 / 0: }"));
        due.error(8, Due.m("switch (1) { case @false && 1 % 0 == 1 ? 5 : 6: }"));
        due.error(8, Due.m("switch (1) { case @in(): }"));
        due.error(8, Due.m("switch (1) { case 'a': case @97: }"));
        due.error(8, Due.m("final int x = in(); switch (1) { case @x: }"));
        due.fine(Due.m("switch (1) { case 1: switch (2) { case 1: default: } case 2: default: }"));
        due.fine(Due.m("switch ('a') { case 65535: case 0: } switch ((byte) 1) { case 'a': case -128: }"));
        due.fine(Due.m("switch (1) { case true ? 1 : 2 / 3: case false && 1 % 2 == 1 ? 5 : 6: }"));
    }

    private static void jumps(Due due) {
        due.error(9, Due.m("@break;"));
        due.error(9, Due.m("@continue;"));
        due.error(9, Due.m("switch (1) { default: @continue; }"));
        due.error(9, Due.m("if (true) @break;"));
        due.error(9, Due.m("l: { @break; }"));
        due.error(9, Due.m("l: { continue @l; }"));
        due.error(9, Due.m("l: k: while (true) { continue @l; }"));
        due.error(9, Due.m("while (true) break @l;"));
        due.error(9, Due.m("l: ; while (true) break @l;"));
        due.error(9, "void m() { l: while (in() > 1) ; } void n() { while (true) break @l; }");
        due.fine(Due.m("l: { break l; } l: k: while (in() > 1) continue k; while (in() > 1) switch (1) { case 1: continue; case 2: break; }"));
        due.fine(Due.m("l: do { k: for (;;) { if (in() > 1) continue l; if (in() > 2) break k; break l; } } while (in() > 1); l: break l;"));
        due.error(10, Due.m("l: { @l: ; }"));
        due.error(10, Due.m("l: k: while (in() > 1) @l: break;"));
        due.fine(Due.m("l: ; l: ;"));
    }

    private static void returnsAndActs(Due due) {
        due.error(11, Due.m("@return 1;"));
        due.error(11, "int m() { @return; }");
        due.error(11, Due.m("@return out(1);"));
        due.error(5, "int m() { return @out(1); }");
        due.fine(Due.m("return;"));
        due.error(12, Due.m("@1;"));
        due.error(12, Due.m("@1 + 2;"));
        due.error(12, Due.m("int a; @(a = 1);"));
        due.error(12, Due.m("int a = 1; @-a;"));
        due.error(12, Due.m("int a = 1; @a;"));
        due.error(12, Due.m("@true ? in() : in();"));
        due.error(12, Due.m("for (@1; ; ) ;"));
        due.error(12, Due.m("for (; ; in(), @in() + 1) ;"));
        due.fine(Due.m("int a = 1; a = 2; a += 3; a++; --a; in(); for (a = 1, in(); in() > 1; a++, a--) ;"));
    }

    /** The least place, of one place the least; what is at fault tells no more of what it is in. */
    private static void whichOneIsTold(Due due) {
        due.error(3, Due.m("boolean a = 1 + @x;"));
        due.error(4, Due.m("boolean a = 1 + @9999999999;"));
        due.error(6, Due.m("boolean a = 1 + @n();"));
        due.error(5, Due.m("byte a = 300 + @true;"));
        due.error(3, Due.m("switch (1) { case 1 + @x: }"));
        due.error(3, Due.m("return 1 + @x;"));
        due.error(5, Due.m("return 1 + @true;"));
        due.error(3, Due.m("out(true, @x);"));
        due.error(3, Due.m("n(1 + @x);"));
        due.error(5, Due.m("n(@out(1));"));
        due.error(3, Due.m("boolean a = true; out(-(a ? @x : 1));"));
        due.error(12, Due.m("@1 + x;"));
        due.error(3, Due.m("@x;"));
        due.error(7, Due.m("final int a = 1; boolean b = (@a = 2);"));
        due.error(3, Due.m("out(@x); out(y);"));
        due.error(9, "void m() { @break; } void m() { }");
        due.error(1, "void m() { } void @m() { break; }");
        due.error(2, Due.m("int a = 1; int @a = true;"));
        due.error(5, Due.m("return; int a = @true;"));
        due.error(3, "int m() { while (true) ; } int n() { @x = 1; }");
    }

    /** An exp of another type tells its own 5, also ahead of one that is at fault. */
    private static void besideWhatIsAtFault(Due due) {
        due.error(5, Due.m("out(@true + q);"));
        due.error(5, Due.m("out(1 + (@true * q));"));
        due.error(5, Due.m("boolean a = @1 && q;"));
        due.error(5, Due.m("boolean a = @1 || n();"));
        due.error(5, Due.m("boolean a = @true < 9999999999;"));
        due.error(5, Due.m("int a = @true << q;"));
        due.error(5, Due.m("boolean a = @out(1) == q;"));
        due.error(5, Due.m("boolean a = @out(1) & q;"));
        due.error(5, Due.m("final int a = 1; out(@true + (a = 2));"));
        due.error(5, Due.m("out(@1 ? q : 2);"));
        due.error(5, Due.m("out(@1 ? 2 : q);"));
        due.error(5, Due.m("out(true ? @out(1) : q);"));
        due.error(5, Due.m("boolean a = true; @a += q;"));
        due.error(5, Due.m("boolean a = true; @a <<= q;"));
        due.error(5, Due.m("switch (@true) { case q: }"));
        // these take a boolean as well as a number, so only q is at fault
        due.error(3, Due.m("boolean a = true == @q;"));
        due.error(3, Due.m("boolean a = true; a ^= @q;"));
        due.error(3, Due.m("int a = 1; a ^= @q;"));
        due.error(3, Due.m("out(true ? true : @q);"));
        due.error(3, Due.m("out(@q + true);"));
        due.error(3, Due.m("out(@q ? 1 : true);"));
    }

    private static void reached(Due due) {
        due.error(13, Due.m("return; @;"));
        due.error(13, Due.m("return; @int a; out(1);"));
        due.error(13, Due.m("throw 1; @{ }"));
        due.error(13, Due.m("while (true) ; @;"));
        due.error(13, Due.m("while (1 < 2) ; @;"));
        due.error(13, Due.m("final boolean a = true; while (a) ; @;"));
        due.error(13, Due.m("while (false) @;"));
        due.error(13, Due.m("while (false) @{ out(1); }"));
        due.error(13, Due.m("for (; false; ) @;"));
        due.error(13, Due.m("for (;;) ; @;"));
        due.error(13, Due.m("do ; while (true); @;"));
        due.error(13, Due.m("do break; while (true); out(1); while (true) { break; @; }"));
        due.error(13, Due.m("do { return; } while (in() > 1); @;"));
        due.error(13, Due.m("do continue; while (true); @;"));
        due.error(13, Due.m("l: while (true) { continue l; } @;"));
        due.error(13, Due.m("l: { break l; @; }"));
        due.error(13, Due.m("if (in() > 1) return; else return; @;"));
        due.error(13, Due.m("switch (1) { case 1: break; @; case 2: }"));
        due.error(13, Due.m("switch (1) { case 1: return; default: return; } @;"));
        due.error(13, Due.m("{ return; } @;"));
        // a side that is left out, but is no CONSTANT, leaves none
        due.fine(Due.m("while (true || 1 / 0 == 1) ; ; while (false && 1 % 0 == 1) ; do ; while (true ? true : 1 / 0 == 1); ;"));
        due.fine(Due.m("if (true) return; ; "));
        due.fine(Due.m("if (false) { out(1); } while (in() > 1) ; boolean a = true; while (a) ; ;"));
        due.fine(Due.m("while (true) break; ; do { continue; } while (in() > 1); ; do { if (in() > 1) break; } while (true); ;"));
        due.fine(Due.m("l: { if (in() > 1) break l; return; } ; do { if (in() > 1) continue; return; } while (in() > 1); ;"));
        due.fine(Due.m("switch (1) { case 1: return; } ; switch (1) { case 1: return; default: } ; switch (1) { } ;"));
        due.fine(Due.m("switch (1) { default: if (in() > 1) break; return; } ; switch (1) { case 1: return; case 2: ; default: ; } ;"));
        due.fine(Due.m("for (;;) { break; } ; l: for (;;) for (;;) break l;"));
        // the least place of all 13 and 14
        due.error(14, "int @m() { while (true) { break; out(1); } }");
        due.error(13, "int m() { return 1; @; } int n() { }");
        // behind what can't be reached the end can't be either
        due.error(13, "int m() { throw 1; @; }");
        due.error(13, "int m() { throw 1; @while (in() > 1) break; }");
        due.error(13, "int m() { while (true) { return 1; @break; } }");
    }

    private static void reachedThroughTry(Due due) {
        due.fine(Due.m("try { } catch (e) { out(1); } ; try { return; } catch (e) { } ; try { throw 1; } catch (e) { } ;"));
        due.fine(Due.m("try { out(1); } catch (e) { return; } ; try { out(1); } finally { out(2); } ;"));
        due.error(13, Due.m("try { return; } catch (e) { throw 1; } @;"));
        due.error(13, Due.m("try { return; } finally { } @;"));
        due.error(13, Due.m("try { } finally { return; } @;"));
        due.error(13, Due.m("try { } catch (e) { } finally { throw 1; } @;"));
        due.error(13, Due.m("while (true) try { break; } finally { continue; } @;"));
        due.error(13, Due.m("l: { try { break l; } finally { return; } } @;"));
        due.error(13, Due.m("do { try { continue; } finally { return; } } while (in() > 1); @;"));
        due.fine(Due.m("while (true) try { break; } finally { out(1); } ;"));
        due.fine(Due.m("while (true) try { } finally { break; } ;"));
        due.error(13, Due.m("try { return; @; } finally { }"));
        due.error(13, Due.m("try { } catch (e) { return; @; }"));
        due.error(13, Due.m("try { } finally { return; @; }"));
    }

    private static void ends(Due due) {
        due.error(14, "int @m() { }");
        due.error(14, "int m() { return 1; } int @n(int a) { if (a > 1) return 1; }");
        due.error(14, "int @m() { while (true) break; }");
        due.error(14, "int @m(int a) { while (a > 1) return 1; }");
        due.error(14, "int @m() { try { return 1; } catch (e) { } }");
        due.error(14, "int @m() { for (; true || 1 / 0 == 1; ) ; }");
        due.error(14, "boolean @m(int a) { switch (a) { case 1: return true; } }");
        due.fine("int m(int a) { if (a > 1) return 1; else return 2; } int n() { while (true) ; } int o() { throw 1; }");
        due.fine("int m(int a) { switch (a) { case 1: return 1; default: throw 2; } } int n() { for (;;) ; }");
        due.fine("int m() { try { return 1; } finally { } } int n() { try { } finally { return 1; } }");
        due.fine("int m() { try { in(); return 1; } catch (e) { return e; } } int n() { l: do { } while (true); }");
    }

    private static void assigned(Due due) {
        due.error(15, Due.m("int a; out(@a);"));
        due.error(15, Due.m("int a; @a++;"));
        due.error(15, Due.m("int a; ++@a;"));
        due.error(15, Due.m("int a; @a += 1;"));
        due.error(15, Due.m("int a; @a += (a = 1);"));
        due.error(15, Due.m("int a = @a;"));
        due.error(15, Due.m("int a = (a = 1) + a + 1; int b = 1 + @b;"));
        due.error(15, Due.m("int a; a = @a;"));
        due.error(15, Due.m("int a; if (in() > 1) a = 1; out(@a);"));
        due.error(15, Due.m("int a; while (in() > 1) a = 1; out(@a);"));
        due.error(15, Due.m("int a; for (; in() > 1; a = 1) out(@a);"));
        due.error(15, Due.m("int a; switch (1) { case 1: a = 1; case 2: out(@a); }"));
        due.error(15, Due.m("int a; switch (1) { case 1: a = 1; break; } out(@a);"));
        due.error(15, Due.m("int a; switch (1) { default: a = 1; case 2: } out(@a);"));
        due.error(15, Due.m("switch (1) { case 1: int a = 1; case 2: out(@a); }"));
        // ahead of a later case: what holds behind the exp, and behind the S ahead of the case
        due.fine(Due.m("if (false) switch (1) { case 1: int a; break; case 2: out(a); }"));
        due.fine(Due.m("if (false) switch (1) { case 1: int a; throw 1; default: out(a); }"));
        due.error(15, Due.m("if (false) switch (1) { case 1: int a; case 2: out(@a); }"));
        due.error(15, Due.m("if (true) switch (1) { case 1: int a; break; case 2: out(@a); }"));
        due.error(15, Due.m("if (false) switch (1) { case 1: int a; break; case 2: out(a); int b; out(@b); }"));
        due.error(15, Due.m("int a; int b; b = 1; out(b); out(@a); a = 1; out(a);"));
        due.fine(Due.m("int a; a = 1; out(a); a++; int b; out(b = 1); out(b); int c = (c = 1) + c;"));
        due.fine(Due.m("int a; if (in() > 1) a = 1; else a = 2; out(a);"));
        due.fine(Due.m("int a; do a = 1; while (in() > 1); out(a); int b; for (b = 1; b < 2; b++) ; out(b);"));
        due.fine(Due.m("int a; switch (1) { case 1: a = 1; break; default: a = 2; } out(a);"));
        due.fine(Due.m("int a; switch (a = 1) { case 1: out(a); } out(a); switch (1) { case 1: int b; case 2: b = 1; out(b); }"));
        due.fine("void m(int a, boolean b) { out(b ? a : -a); } int n() { int a; if (in() > 1) return 1; else a = 2; return a; }");
        // the value of a CONSTANT is not taken
        due.fine(Due.m("switch (1) { case 1: final int a = 5; case 2: out(a); case a: }"));
        due.error(15, Due.m("switch (1) { case 1: final int a = in(); case 2: out(@a); }"));
        due.error(15, Due.m("final int a = @a + 1;"));
        // the least place, though another use comes first
        due.error(15, Due.m("int a; for (; in() > 1; @a++) out(a);"));
    }

    private static void assignedAlongConditions(Due due) {
        due.fine(Due.m("int a; if (in() > 1 && (a = 1) > 0) out(a);"));
        due.error(15, Due.m("int a; if (in() > 1 && (a = 1) > 0) ; else out(@a);"));
        due.fine(Due.m("int a; if (in() > 1 || (a = 1) > 0) ; else out(a);"));
        due.error(15, Due.m("int a; if (in() > 1 || (a = 1) > 0) out(@a);"));
        due.fine(Due.m("int a; if (!(in() > 1 && (a = 1) > 0)) ; else out(a);"));
        due.fine(Due.m("int a; boolean b = in() > 1 && (a = 1) > 0 && a > 1 || false;"));
        due.error(15, Due.m("int a; boolean b = in() > 1 && (a = 1) > 0; out(@a);"));
        due.fine(Due.m("int a; while (!(in() > 1 && (a = 1) > 0)) ; out(a);"));
        due.fine(Due.m("int a; out(in() > 1 ? a = 1 : (a = 2)); out(a);"));
        due.error(15, Due.m("int a; out(in() > 1 ? a = 1 : 2); out(@a);"));
        due.fine(Due.m("int a; if (in() > 1 ? (a = 1) > 0 : false) out(a);"));
        due.fine(Due.m("int a; if (in() > 1 ? (a = 1) > 0 : true) ; else out(a);"));
        due.error(15, Due.m("int a; if (in() > 1 ? (a = 1) > 0 : true) out(@a);"));
        due.fine(Due.m("int a; if (false) out(a); while (true) { if (in() > 1) break; return; }"));
        due.fine(Due.m("int a; if (true || in() > 1) a = 1; out(a); int b; if (true) b = 1; out(b);"));
        due.fine(Due.m("int a; final boolean t = 1 < 2; if (t) a = 1; out(a); int b; if (!t) out(b);"));
        due.error(15, Due.m("int a; boolean t = true; if (t) a = 1; out(@a);"));
        due.error(15, Due.m("int a; if (in() > 1 & (a = 1) > 0) out(a); out(a); int b; if (in() > 1 | in() > 2) b = 1; out(@b);"));
        due.error(15, Due.m("if (false) { int a; out(@a); }"));
        due.fine(Due.m("int a; if (in() > 1 && true) a = 1; else return; out(a);"));
        // also where a part is no CONSTANT, the parts that are CONSTANTS hold all on the other side
        due.fine(Due.m("int a; if (false && 1 / 0 == 1) out(a); int b; if (true || 1 / 0 == 1) b = 1; out(b);"));
        due.error(15, Due.m("int a; if ((1 / 0 == 1) || true) a = 1; int b; if ((false && 1 / 0 == 1) | false) out(@b);"));
    }

    private static void assignedAlongJumps(Due due) {
        due.fine(Due.m("int a; while (true) { a = 1; break; } out(a);"));
        due.error(15, Due.m("int a; while (true) { if (in() > 1) break; a = 1; break; } out(@a);"));
        due.fine(Due.m("int a; for (;;) { a = 1; if (in() > 1) break; } out(a);"));
        due.fine(Due.m("int a; l: { if (in() > 1) { a = 1; break l; } a = 2; } out(a);"));
        due.error(15, Due.m("int a; l: { if (in() > 1) break l; a = 2; } out(@a);"));
        due.error(15, Due.m("int a; do { if (in() > 1) continue; a = 1; } while (@a > 1);"));
        due.fine(Due.m("int a; do { if (in() > 1) { a = 2; continue; } a = 1; } while (a > 1);"));
        due.error(15, Due.m("int a; for (; in() > 1; out(@a)) { if (in() > 2) continue; a = 1; }"));
        due.error(15, Due.m("int a; try { a = 1; } catch (e) { } out(@a);"));
        due.error(15, Due.m("int a; try { a = 1; } catch (e) { out(@a); }"));
        due.error(15, Due.m("int a; try { a = 1; } finally { out(@a); }"));
        due.fine(Due.m("int a; try { a = 1; } catch (e) { a = e; } out(a); int b; try { b = 1; } finally { } out(b);"));
        due.fine(Due.m("int a; try { } finally { a = 1; } out(a); int b; try { in(); } catch (e) { } finally { b = 1; } out(b);"));
        due.fine(Due.m("int a; try { a = 1; } catch (e) { return; } out(a);"));
        due.fine(Due.m("int a; while (true) { try { break; } finally { a = 1; } } out(a);"));
        due.fine(Due.m("int a; do { try { continue; } finally { a = 1; } } while (a > 2);"));
        due.fine(Due.m("int a; l: { try { try { break l; } finally { } } catch (e) { a = 2; } finally { a = 1; } } out(a);"));
        due.error(15, Due.m("int a; l: { try { break l; } finally { in(); } } out(@a);"));
        due.error(15, Due.m("int a; while (true) { try { } finally { if (in() > 1) break; a = 1; } } out(@a);"));
    }
}
