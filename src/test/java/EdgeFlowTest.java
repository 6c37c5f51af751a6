import java.util.HashMap;
import java.util.List;
import java.util.Map;

/** REACHED and SURELY assigned (ERRORS 13 to 15, promises 14 and 15): each rule on both of its sides. */
final class EdgeFlowTest {
    private static final String HEAD = "void m(boolean o, boolean p, int i) { ";
    private static final String A = "(v = i) > 0";
    private static final String H = " boolean h(int x) { return x > 0; }";

    public static void main(String[] args) {
        Due due = new Due();
        plainOnes(due);
        loops(due);
        labelsAndSwitches(due);
        tries(due);
        waysThroughFinally(due);
        theFirstOfARow(due);
        bodiesOfFalse(due);
        theEndOfAMethod(due);
        endsOfEach(due);
        expsWhenTrueAndFalse(due);
        constantsOnTheOtherSide(due);
        valuesTakenWithin(due);
        valuesTaken(due);
        behindPlainOnes(due);
        behindLoops(due);
        behindSwitches(due);
        behindTries(due);
        aheadOfCatchAndFinally(due);
        whereItIsTold(due);
        whereItIsKnown(due);
        due.end();
    }

    // ---- REACHED

    /** An S that can end, or can't: what is behind it, ends() of it, and the end of a method with a result. */
    private static void ends(Due due, int can, String s) {
        String text = HEAD + s + " }";
        PlainJava x = Due.of(text);
        int at = Due.tokens(HEAD).size();
        due.same("judge() of " + text, x.judge(), 0);
        due.same("ends of " + s, x.ends(at), can);
        String result = "int" + HEAD.substring(4) + s + " }";
        if (can == 1) {
            due.fine(HEAD + s + " ; }");
            due.error(14, result.replace("int m", "int @m"));
        } else {
            due.error(13, HEAD + s + " @; }");
            due.error(13, HEAD + "{ " + s + " } @; }");
            due.fine(result);
        }
    }

    private static void plainOnes(Due due) {
        for (String s : new String[] {";", "int a;", "int a = 1;", "final int a = 1;", "i = 1;", "i++;", "out(1);", "{ }", "{ ; }", "{ int a; }", "{ { } }"}) {
            ends(due, 1, s);
        }
        for (String s : new String[] {"throw 1;", "{ throw 1; }", "{ ; throw 1; }", "{ { throw 1; } }"}) {
            ends(due, 0, s);
        }
        due.error(13, HEAD + "return; @; }");
        due.fine(HEAD + "return; }");
        // an exp of if is looked at by none
        ends(due, 1, "if (o) throw 1;");
        ends(due, 1, "if (true) throw 1;");
        ends(due, 1, "if (false) throw 1;");
        ends(due, 1, "if (o) throw 1; else ;");
        ends(due, 1, "if (o) ; else throw 1;");
        ends(due, 0, "if (o) throw 1; else throw 2;");
        ends(due, 0, "if (true) throw 1; else throw 2;");
        ends(due, 1, "if (true) throw 1; else ;");
        ends(due, 1, "if (false) ; else throw 1;");
        ends(due, 1, "if (o) if (p) throw 1; else throw 2;");
        ends(due, 0, "if (o) { if (p) throw 1; else throw 2; } else throw 3;");
    }

    private static void loops(Due due) {
        for (String s : new String[] {"while (o) ;", "while (o) throw 1;", "while (true) break;", "while (true) { if (o) break; }", "while (true) { if (o) break; throw 1; }",
            "while (true || o) ;", "while (o || true) ;", "while (true | o) ;", "while (true || 1 / 0 == 1) ;", "while (true ? true : 1 / 0 == 1) ;", "while (o) continue;",
            "do ; while (o);", "do ; while (false);", "do ; while (true && o);", "do break; while (true);", "do break; while (o);", "do { if (o) continue; throw 1; } while (o);",
            "do continue; while (o);", "do continue; while (false);", "do { if (o) break; throw 1; } while (true);", "do { if (o) break; } while (true);",
            "l: do { while (o) continue l; throw 1; } while (o);", "l: do { if (o) continue l; throw 1; } while (p);",
            "for (; o; ) ;", "for (; o; ) throw 1;", "for (; ; ) break;", "for (; true; ) break;", "for (; ; i++) { if (o) break; }", "for (int j = 1; j < 1; j++) ;"}) {
            ends(due, 1, s);
        }
        for (String s : new String[] {"while (true) ;", "while (1 < 2) ;", "while (!false) ;", "while (true & true) ;", "while (false || true) ;", "while ((true)) ;",
            "while ((boolean) true) ;", "while (true ? true : false) ;", "while (true) continue;", "while (true) { if (o) throw 1; }", "while (true) { while (o) break; }",
            "while (true) switch (i) { case 1: break; }", "while (true) { for (; ; ) break; }", "while (true) { do break; while (o); }",
            "do ; while (true);", "do ; while (1 < 2);", "do throw 1; while (o);", "do throw 1; while (false);", "do throw 1; while (true);", "do continue; while (true);",
            "do { while (o) continue; throw 1; } while (o);", "do { while (o) break; throw 1; } while (o);",
            "l: while (true) { do { continue l; } while (p); }",
            "for (; ; ) ;", "for (; true; ) ;", "for (; ; ) throw 1;", "for (; ; ) continue;", "for (; 2 > 1; i++) ;", "for (int j = 1; ; ) { if (o) throw 1; }"}) {
            ends(due, 0, s);
        }
        due.error(13, HEAD + "final boolean t = true; while (t) ; @; }");
        due.fine(HEAD + "boolean t = true; while (t) ; ; }");
        due.fine("void m(final boolean t) { while (t) ; ; }");
    }

    private static void labelsAndSwitches(Due due) {
        for (String s : new String[] {"l: ;", "l: break l;", "l: { break l; }", "l: { if (o) break l; throw 1; }", "l: while (true) break l;", "l: while (true) break;",
            "l: while (true) while (true) break l;", "l: k: { break k; }", "l: k: { break l; }", "l: { k: { break l; } }", "l: do { break l; } while (true);", "l: for (; ; ) break l;",
            "l: switch (i) { default: break l; }", "l: while (o) continue l;",
            "switch (i) { }", "switch (i) { default: }", "switch (i) { case 1: }", "switch (i) { case 1: throw 1; }", "switch (1) { case 1: throw 1; }",
            "switch (i) { case 1: throw 1; default: }", "switch (i) { default: throw 1; case 1: }", "switch (i) { default: throw 1; case 1: ; }", "switch (i) { case 1: break; default: throw 1; }",
            "switch (i) { default: break; }", "switch (i) { default: if (o) break; throw 1; }", "switch (i) { case 1: throw 1; case 2: throw 2; }",
            "switch (i) { default: case 1: { if (o) break; } throw 1; }", "switch (i) { case 1: throw 1; default: int a; }"}) {
            ends(due, 1, s);
        }
        for (String s : new String[] {"l: throw 1;", "l: { throw 1; }", "l: k: throw 1;", "l: while (true) ;", "l: while (true) continue l;", "l: { while (true) break; throw 1; }",
            "l: { while (o) break; throw 1; }", "l: while (true) { k: { break k; } }",
            "switch (i) { default: throw 1; }", "switch (i) { default: throw 1; case 1: throw 2; }", "switch (i) { case 1: ; default: throw 1; }", "switch (i) { case 1: case 2: default: throw 1; }",
            "switch (i) { default: while (true) break; throw 1; }", "switch (i) { case 1: throw 1; default: switch (i) { case 1: break; } throw 2; }",
            "switch (i) { default: while (true) ; }"}) {
            ends(due, 0, s);
        }
        due.error(13, HEAD + "switch (i) { case 1: break; @; case 2: } }");
        due.error(13, HEAD + "switch (i) { case 1: throw 1; @int a; case 2: ; } }");
        due.error(13, HEAD + "switch (i) { default: throw 1; @; } }");
        due.fine(HEAD + "switch (i) { case 1: break; case 2: ; throw 1; default: ; } }");
        due.error(13, HEAD + "while (true) { continue; @; } }");
        due.error(13, HEAD + "l: { break l; @; } }");
    }

    /** "a catch if its try is (all exps may throw), a try ends normally if its block or its catch does, and its finally, if there is one" */
    private static void tries(Due due) {
        String[] can = {";", "throw 1;"};
        for (int block = 0; block < 2; block++) {
            for (int caught = 0; caught < 3; caught++) {
                for (int last = 0; last < 3; last++) {
                    if (caught < 2 || last < 2) {
                        String s = "try { " + can[block] + " }" + (caught < 2 ? " catch (e) { " + can[caught] + " }" : "") + (last < 2 ? " finally { " + can[last] + " }" : "");
                        boolean ends = (block == 0 || caught == 0) && last != 1;
                        ends(due, ends ? 1 : 0, s);
                    }
                }
            }
        }
        ends(due, 1, "try { } catch (e) { }");
        ends(due, 1, "try { } finally { }");
        due.error(13, HEAD + "try { throw 1; @; } catch (e) { } }");
        due.error(13, HEAD + "try { } catch (e) { throw 1; @; } }");
        due.error(13, HEAD + "try { throw 1; } finally { throw 1; @; } }");
    }

    private static void waysThroughFinally(Due due) {
        for (String s : new String[] {"while (true) try { break; } finally { }", "while (true) try { break; } catch (e) { } finally { ; }", "while (true) try { throw 1; } finally { break; }",
            "while (true) try { } catch (e) { break; }", "while (true) try { } catch (e) { break; } finally { }", "l: try { break l; } finally { }", "l: try { throw 1; } finally { break l; }",
            "l: try { try { break l; } finally { } } finally { }", "l: { try { throw 1; } catch (e) { break l; } finally { } }", "do { try { continue; } finally { } } while (o);",
            "do { try { throw 1; } finally { continue; } } while (o);", "l: { try { while (true) break; } finally { } }", "switch (i) { default: try { break; } finally { } }",
            "try { while (true) break; } finally { }", "l: try { try { throw 1; } finally { break l; } } finally { }"}) {
            ends(due, 1, s);
        }
        for (String s : new String[] {"while (true) try { break; } finally { throw 1; }", "while (true) try { break; } finally { continue; }", "l: try { break l; } finally { throw 1; }",
            "l: try { try { break l; } finally { } } finally { throw 1; }", "l: try { try { break l; } finally { throw 1; } } finally { }",
            "do { try { continue; } finally { throw 1; } } while (o);", "switch (i) { default: try { break; } finally { throw 1; } }",
            "while (true) { try { while (true) { try { break; } finally { } } } finally { } }", "while (true) { try { while (true) break; } finally { } }",
            "l: try { try { throw 1; } finally { break l; } } finally { throw 2; }", "try { while (true) break; } finally { throw 1; }"}) {
            ends(due, 0, s);
        }
    }

    /** "13 is told of the first S only that can't be in a row of S's (behind it the row's end can't be either)" */
    private static void theFirstOfARow(Due due) {
        due.error(13, HEAD + "throw 1; @; ; ; }");
        due.error(13, HEAD + "throw 1; @int a; out(a); throw 2; ; }");
        // not 14 at m, which has the least place
        due.error(13, "int m() { throw 1; @; }");
        due.error(13, "int m() { { throw 1; @; } }");
        due.error(13, "int m() { l: { throw 1; @break l; } }");
        due.error(13, "int m() { while (true) { throw 1; @break; } }");
        due.error(13, "int m() { while (true) { throw 1; @{ break; } } }");
        due.error(13, "int m() { try { throw 1; @; } finally { } }");
        due.error(13, "int m() { throw 1; @while (in() > 1) ; }");
        due.error(13, "int m() { throw 1; @if (in() > 1) ; }");
        due.error(13, "int m(int i) { switch (i) { default: throw 1; @; } }");
        due.error(13, "int m() { do { throw 1; @continue; } while (in() > 1); }");
        // the least place of all of them
        due.error(14, "int @m() { while (in() > 1) { continue; ; } }");
        due.error(13, "void m() { return; @; } int n() { }");
        due.error(14, "int @n() { } void m() { return; ; }");
        due.error(13, "void m() { if (in() > 1) { return; @; } return; ; }");
    }

    private static void bodiesOfFalse(Due due) {
        for (String body : new String[] {";", "{ }", "out(1);", "throw 1;", "while (in() > 1) ;", "l: ;", "try { } finally { }"}) {
            due.error(13, HEAD + "while (false) @" + body + " }");
            due.error(13, HEAD + "for (; false; ) @" + body + " }");
            due.error(13, HEAD + "for (int j = 1; !true; j++) @" + body + " }");
            due.error(13, HEAD + "final boolean f = 1 > 2; while (f) @" + body + " }");
            due.fine(HEAD + "if (false) " + body + " }");
            due.fine(HEAD + "if (true) ; else " + body + " }");
            due.fine(HEAD + "do " + body + " while (false); }");
            due.fine(HEAD + "while (false && o) " + body + " }");
            due.fine(HEAD + "boolean f = false; while (f) " + body + " }");
        }
        // what is behind it can be
        due.error(13, "int m() { while (false) @; return 1; ; }");
        due.error(14, "int @m() { while (false) ; }");
    }

    /** "14 a method with a result whose end can be (at its NAME)" */
    private static void theEndOfAMethod(Due due) {
        for (String type : Due.TYPES) {
            due.error(14, type + " @m() { }");
            due.error(14, "void n() { } " + type + " @m(" + type + " a) { if (in() > 1) return a; }");
            due.fine(type + " m(" + type + " a) { return a; }");
            due.fine(type + " m() { throw 1; }");
            due.fine(type + " m() { while (true) ; }");
        }
        due.fine("void m() { }");
        due.error(14, "int @m() { } int n() { }");
        due.error(14, "int m() { return 1; } int @n() { ; } int o() { }");
    }

    /** Every token of a text: those that are marked ^1 and ^0 begin an S or told, no other does. */
    private static void endsAsMarked(Due due, String marked) {
        StringBuilder text = new StringBuilder();
        Map<Integer, Integer> want = new HashMap<>();
        for (int i = 0; i < marked.length(); i++) {
            if (marked.charAt(i) == '^') {
                want.put(text.length(), marked.charAt(i + 1) - '0');
                i++;
            } else {
                text.append(marked.charAt(i));
            }
        }
        PlainJava x = Due.of(text.toString());
        due.same("judge() of " + text, x.judge(), 0);
        List<int[]> tokens = Due.tokens(text.toString());
        for (int i = 0; i < tokens.size(); i++) {
            due.same("ends(" + i + ") of " + text, x.ends(i), want.getOrDefault(tokens.get(i)[0], PlainJava.BAD));
        }
        for (int i : new int[] {-1, tokens.size(), 500, Integer.MIN_VALUE, Integer.MAX_VALUE}) {
            due.same("ends(" + i + ")", x.ends(i), PlainJava.BAD);
        }
    }

    private static void endsOfEach(Due due) {
        endsAsMarked(due, "int m(int a) { ^1int b = 1; ^1; ^1b = 2 + in(); ^1{ } ^1{ ^1if (a > 1) ^0return 3; } ^1while (a > 2) ^1; ^1l: ^0{ ^0break l; } ^1final int c = 4; ^0return c; }");
        endsAsMarked(due, "void m(int a) { ^1switch (a) { case 1: ^1int c; ^0break; case 2: ^1{ } default: ^0throw 4; } ^1switch (a) { default: } ^0while (true) ^1{ ^1a++; } }");
        endsAsMarked(due, "void m(int a) { ^1try { ^1out(5); } catch (e) { ^0throw 6; } finally { ^1; } ^1try { ^0return; } catch (e) { ^1{ } } ^0try { ^0return; } finally { ^1{ ^1; } } }");
        endsAsMarked(due, "void m(int a) { ^1for (int i = 8; true; i++, in()) ^0{ ^0if (a > 9) ^0continue; else ^0break; } ^1do ^1{ ^1if (a > 10) ^0return; } while (a > 12); "
            + "^1l: ^0for (; ; ) ^1for (; a > 1; ) ^0break l; ^1if (a > 1) ^1; else ^1if (a > 2) ^0throw 1; else ^1{ } }");
        endsAsMarked(due, "void m() { } void n() { ^1m(); ^0l: ^0k: ^0do ^0continue k; while (true); } int o() { ^0throw -1; }");
    }

    // ---- SURELY assigned: exps

    /** Whether v is assigned when an exp is true, and when it is false: ahead of what if, while, do, for and choices go on with. */
    private static void when(Due due, String exp, int isTrue, int isFalse) {
        int both = isTrue & isFalse;
        String told = HEAD + "final boolean t = 1 < 2; int v; ";
        assigned(due, told + "if (" + exp + ") out(1); else out(2); out(3); }" + H, "out(1)", isTrue, "out(2)", isFalse, "out(3)", both);
        assigned(due, told + "if (!(" + exp + ")) out(1); else out(2); out(3); }" + H, "out(1)", isFalse, "out(2)", isTrue, "out(3)", both);
        assigned(due, told + "boolean r = " + exp + "; out(3); }" + H, "out(3)", both);
        assigned(due, told + "g(" + exp + "); out(3); } void g(boolean x) { }" + H, "out(3)", both);
        assigned(due, told + "if ((" + exp + ") && o) out(1); else out(2); out(3); }" + H, "out(1)", isTrue, "out(2)", both, "out(3)", both);
        assigned(due, told + "if ((" + exp + ") || o) out(1); else out(2); out(3); }" + H, "out(1)", both, "out(2)", isFalse, "out(3)", both);
        if (!exp.equals("true") && !exp.equals("t")) {
            assigned(due, told + "do out(1); while (" + exp + "); out(2); }" + H, "out(1)", 0, "out(2)", isFalse);
        }
    }

    /** Pieces of a text and whether v is assigned ahead of the S's that begin there. */
    private static void assigned(Due due, String text, Object... asked) {
        PlainJava x = Due.of(text);
        due.same("judge() of " + text, x.judge(), 0);
        int v = x.told(2) - 1;
        for (int k = 0; k < x.told(2); k++) {
            int[] name = Due.tokens(text).get(x.variable(k, 0));
            v = text.substring(name[0], name[1]).equals("v") ? k : v;
        }
        for (int i = 0; i < asked.length; i += 2) {
            due.same("assigned ahead of " + asked[i] + " in " + text, x.assigned(Due.tokenAt(text, (String) asked[i], 0), v), (Integer) asked[i + 1]);
        }
    }

    private static void expsWhenTrueAndFalse(Due due) {
        Object[][] rows = {{"o", 0, 0}, {A, 1, 1}, {"o && " + A, 1, 0}, {A + " && o", 1, 1}, {"o || " + A, 0, 1}, {A + " || o", 1, 1}, {"!o", 0, 0}, {"!(" + A + ")", 1, 1},
            {"!(o && " + A + ")", 0, 1}, {"!(o || " + A + ")", 1, 0}, {"!!(o && " + A + ")", 1, 0}, {"(o && " + A + ")", 1, 0}, {"((o || " + A + "))", 0, 1},
            {"o & " + A, 1, 1}, {"o | " + A, 1, 1}, {"o ^ " + A, 1, 1}, {"o == " + A, 1, 1}, {A + " != o", 1, 1}, {"(o && " + A + ") & p", 0, 0}, {"(o || " + A + ") | p", 0, 0},
            {"(o && " + A + ") == p", 0, 0}, {"p ^ (o && " + A + ")", 0, 0},
            {"o ? " + A + " : p", 0, 0}, {"o ? p : " + A, 0, 0}, {"o ? " + A + " : " + A, 1, 1}, {A + " ? o : p", 1, 1}, {"o ? " + A + " : true", 0, 1}, {"o ? " + A + " : false", 1, 0},
            {"o ? true : " + A, 0, 1}, {"o ? false : " + A, 1, 0}, {"(o && " + A + ") ? p : true", 0, 1}, {"(o && " + A + ") ? p : false", 1, 0}, {"(o || " + A + ") ? true : p", 0, 1},
            {"(o || " + A + ") ? false : p", 1, 0}, {"(o && " + A + ") ? true : p", 0, 0}, {"o ? p && " + A + " : p && " + A, 1, 0}, {"o ? p || " + A + " : p || " + A, 0, 1},
            {"o ? p && " + A + " : p || " + A, 0, 0}, {"o ? " + A + " : p && " + A, 1, 0}, {"o ? p || " + A + " : " + A, 0, 1}, {"o ? p : o ? " + A + " : " + A, 0, 0},
            {"o ? " + A + " : p ? " + A + " : " + A, 1, 1}, {"o ? " + A + " : p ? false : " + A, 1, 0},
            {"p = o && " + A, 0, 0}, {"p = " + A, 1, 1}, {"p &= " + A, 1, 1}, {"o && (p && " + A + ")", 1, 0}, {"o || (p || " + A + ")", 0, 1}, {"(o || p) && " + A, 1, 0},
            {"o && p || " + A, 0, 1}, {"o && " + A + " || p", 0, 0}, {"(o || " + A + ") && p", 0, 0}, {"!(o && !(" + A + "))", 0, 1}, {"o && " + A + " && p", 1, 0}, {"o || " + A + " || p", 0, 1},
            {"i > (v = 1)", 1, 1}, {"i + (v = 1) > 2", 1, 1}, {"-(v = 1) > 2", 1, 1}, {"(byte) (v = 1) > 2", 1, 1}, {"(i = v = 1) > 2", 1, 1}, {"(i += v = 1) > 2", 1, 1},
            {"(o ? v = 1 : 2) > 3", 0, 0}, {"(o ? v = 1 : (v = 2)) > 3", 1, 1}, {"(o ? 1 : (v = 2)) > 3", 0, 0}, {"h(v = 1)", 1, 1}, {"o && h(v = 1)", 1, 0}, {"h(1) && h(v = 1)", 1, 0},
            {"h(o && " + A + " ? 1 : 2)", 0, 0}};
        for (Object[] row : rows) {
            when(due, (String) row[0], (Integer) row[1], (Integer) row[2]);
        }
    }

    /** "of CONSTANTS true, false all holds on the other side" */
    private static void constantsOnTheOtherSide(Due due) {
        Object[][] rows = {{"true", 0, 1}, {"false", 1, 0}, {"t", 0, 1}, {"!t", 1, 0}, {"o && true", 0, 0}, {"o && false", 1, 0}, {"o || true", 0, 1}, {"o || false", 0, 0},
            {"true && " + A, 1, 1}, {"false && " + A, 1, 0}, {"true || " + A, 0, 1}, {"false || " + A, 1, 1}, {"t && " + A, 1, 1}, {"!t && " + A, 1, 0}, {"false && o", 1, 0}, {"true || o", 0, 1},
            {"true && o", 0, 0}, {"true ? " + A + " : o", 1, 1}, {"false ? o : " + A, 1, 1}, {"true ? o : " + A, 0, 0}, {"false ? " + A + " : o", 0, 0},
            {"o ? true : true", 0, 1}, {"o ? false : false", 1, 0}, {"o ? true : false", 0, 0}, {"o == true", 0, 0}, {"o & false", 0, 0}, {"o | true", 0, 0},
            // no CONSTANTS, as a part is none; but the parts that are hold what they hold
            {"true || 1 / 0 == 1", 0, 1}, {"false && 1 / 0 == 1", 1, 0}, {"1 / 0 == 1 || true", 0, 1}, {"1 / 0 == 1", 0, 0}, {"true & 1 / 0 == 1", 0, 0}};
        for (Object[] row : rows) {
            when(due, (String) row[0], (Integer) row[1], (Integer) row[2]);
        }
        // CONSTANTS by operators: while and do would not be REACHED behind them
        for (Object[] row : new Object[][] {{"1 < 2", 0, 1}, {"2 < 1", 1, 0}, {"true & false", 1, 0}, {"true == true", 0, 1}, {"true ^ true", 1, 0}, {"true ? true : false", 0, 1},
            {"true ? false : true", 1, 0}, {"false || true", 0, 1}, {"true && false", 1, 0}, {"(true)", 0, 1}, {"(boolean) false", 1, 0}, {"!(1 < 2)", 1, 0}, {"t & t", 0, 1}}) {
            String told = HEAD + "final boolean t = 1 < 2; int v; ";
            assigned(due, told + "if (" + row[0] + ") out(1); else out(2); out(3); }", "out(1)", row[1], "out(2)", row[2], "out(3)", 0);
        }
        // a boolean that is no CONSTANT holds nothing more
        assigned(due, HEAD + "boolean t = true; int v; if (t) out(1); else out(2); }", "out(1)", 0, "out(2)", 0);
        assigned(due, "void m(final boolean t) { int v; if (t) out(1); else out(2); }", "out(1)", 0, "out(2)", 0);
        // and a CONSTANT that is no boolean neither
        assigned(due, HEAD + "int v; switch (1) { case 1: out(1); } if (1 == i) out(2); }", "out(1)", 0, "out(2)", 0);
    }

    private static void taken(Due due, String exp) {
        if (exp.contains("@")) {
            due.error(15, HEAD + "int v; boolean r = " + exp + "; }");
            due.error(15, HEAD + "int v; if (" + exp + ") ; }");
        } else {
            due.fine(HEAD + "int v; boolean r = " + exp + "; }");
            due.fine(HEAD + "int v; if (" + exp + ") ; }");
        }
    }

    private static void valuesTakenWithin(Due due) {
        for (String exp : new String[] {A + " & v > 0", "o && " + A + " && v > 0", "o || " + A + " || v > 0", "o && (" + A + " && v > 0)", "(o ? " + A + " : " + A + ") && v > 0",
            "(o && " + A + ") ? v > 0 : p", "(o || " + A + ") ? p : v > 0", "!(o || " + A + ") && v > 0", "!(o && " + A + ") || v > 0", "true || v > 0", "false && v > 0",
            "(true ? 1 : v) > 0", "(false ? v : 1) > 0", "o && (true || v > 0)", "(v = 1) + v > 0", "i + (v = 1) * v > 0", "(i = v = 1) + v > 0", "o ? " + A + " && v > 0 : p",
            "o ? p : " + A + " && v > 0", "o || false && v > 0", "(o ? v = 1 : (v = 2)) + v > 0", "!(" + A + ") && v > 0"}) {
            taken(due, exp);
        }
        for (String exp : new String[] {"@v > 0 & " + A, "o && " + A + " && v > 0 || @v > 1", "o && " + A + " || @v > 0", "(o || " + A + ") && @v > 0", "o ? @v > 0 : " + A,
            "o ? " + A + " : @v > 0", "(o && " + A + ") ? p : @v > 0", "(o || " + A + ") ? @v > 0 : p", "true && @v > 0", "false || @v > 0", "(true ? @v : 1) > 0", "(false ? 1 : @v) > 0",
            "(o ? v = 1 : 2) + @v > 0", "(v = @v) > 0", "@v + (v = 1) > 0", "i > 0 & @v > 0", "-@v > 0", "(byte) @v > 0", "(@v) > 0", "!(o && " + A + ") && @v > 0",
            "!(o || " + A + ") || @v > 0", "(o && " + A + ") & @v > 0", "(o || " + A + ") & @v > 0", "(o && " + A + ") == @v > 0", "(o || " + A + ") ^ @v > 0",
            "(o && " + A + ") | (p && @v > 0)", "(p = o && " + A + ") & @v > 0"}) {
            taken(due, exp);
        }
    }

    /** "15 a variable .. where its value is taken (also by += and the like, ++, --; at it; that of a CONSTANT is not taken)" */
    private static void valuesTaken(Due due) {
        for (String sign : new String[] {"+=", "-=", "*=", "/=", "%=", "&=", "|=", "^=", "<<=", ">>=", ">>>="}) {
            due.error(15, HEAD + "int v; @v " + sign + " 1; }");
            due.error(15, HEAD + "int v; @v " + sign + " (v = 1); }");
            due.error(15, HEAD + "int v; i " + sign + " @v; }");
            due.fine(HEAD + "int v; i " + sign + " v = 1; out(v); }");
            due.fine(HEAD + "int v; v = 1; v " + sign + " v; }");
        }
        for (String use : new String[] {"@v++;", "@v--;", "++@v;", "--@v;", "out(@v);", "out(@v++);", "i = @v;", "int w = @v;", "throw @v;", "switch (@v) { }", "if (@v > 0) ;",
            "while (@v > 0) ;", "do ; while (@v > 0);", "for (; @v > 0; ) ;", "for (; o; @v++) ;", "for (i = @v; o; ) ;", "for (int w = @v; o; ) ;", "m(o, p, @v);", "m(o, @v > 1, 1);"}) {
            due.error(15, HEAD + "int v; " + use + " }");
            due.fine(HEAD + "int v; v = 1; " + use.replace("@", "") + " }");
            due.fine(HEAD + "int v = 1; " + use.replace("@", "") + " }");
        }
        due.error(15, HEAD + "int v; m(o, p && " + A + ", @v); }");
        due.error(15, HEAD + "int v; m(o, p || " + A + ", @v); }");
        due.fine(HEAD + "int v; m(o, p & " + A + ", v); }");
        due.error(15, HEAD + "int v; m(o, p, @v + (v = 1)); }");
        due.fine(HEAD + "int v; m(" + A + ", v > 1, v); }");
        due.error(15, "int m() { int v; return @v; }");
        due.error(15, "boolean m() { boolean v; return @v; }");
        // what is assigned is not taken
        due.fine(HEAD + "int v; v = 1; }");
        due.fine(HEAD + "int v; i = v = 1; out(v); }");
        due.fine(HEAD + "int v; for (v = 1; v < 2; v++) ; out(v); }");
        // a CONSTANT
        due.fine(HEAD + "switch (i) { case 1: final int v = 5; case 2: out(v); i = v + 1; i += v; default: byte b = v; } }");
        due.error(15, HEAD + "switch (i) { case 1: final int v = i; case 2: out(@v); } }");
        due.error(15, HEAD + "switch (i) { case 1: int v = 5; case 2: out(@v); } }");
        due.error(15, HEAD + "switch (i) { case 1: final int v = 1 / 0; case 2: out(@v); } }");
        due.error(15, HEAD + "final int v = @v; }");
        // the least place: another one that is come to earlier stands behind it
        due.error(15, HEAD + "int v; for (; o; @v++) { out(v); } }");
        due.error(15, HEAD + "int v; int w; for (; o; out(@v)) { out(w); } }");
        due.error(15, HEAD + "int v; try { out(@v); } finally { out(v); } }");
    }

    // ---- SURELY assigned: S's

    private static void behind(Due due, int is, String row) {
        assigned(due, HEAD + "int v; " + row + " out(9); }" + H, "out(9)", is);
    }

    private static void behindPlainOnes(Due due) {
        for (String row : new String[] {"v = 1;", "{ v = 1; }", "int w = v = 1;", "final int w = v = 1;", "out(v = 1);", "if (o) v = 1; else v = 2;", "if (o) v = 1; else return;",
            "if (o) return; else v = 1;", "if (o) throw v = 1; else v = 2;", "if (true) v = 1;", "if (false) ; else v = 1;", "if ((v = i) > 0) ;", "if (o && " + A + ") ; else return;",
            "if (o || " + A + ") return;", "l: v = 1;", "l: { v = 1; if (o) break l; }", "l: { if (o) { v = 1; break l; } v = 2; }", "l: { if (o) { v = 1; break l; } return; }",
            "l: k: { if (o) { v = 1; break k; } v = 2; break l; }", "l: { k: { if (o) break k; v = 1; break l; } v = 2; }", "h(v = 1);", "if (h(v = 1)) ;"}) {
            behind(due, 1, row);
        }
        for (String row : new String[] {";", "{ }", "int w = i;", "int w;", "out(1);", "if (o) v = 1;", "if (o) return;", "if (o) ; else v = 1;", "if (false) v = 1;", "if (true) ; else v = 1;",
            "if (o && " + A + ") ;", "if (o && " + A + ") return;", "if (o || " + A + ") ; else return;", "l: { if (o) break l; v = 1; }", "l: { if (o) { v = 1; break l; } }",
            "l: k: { if (o) break l; v = 1; break k; }", "l: { k: { if (o) { v = 1; break k; } break l; } }", "{ int w; w = 1; }"}) {
            behind(due, 0, row);
        }
    }

    private static void behindLoops(Due due) {
        for (String row : new String[] {"while (true) { v = 1; break; }", "while (true) { v = 1; if (o) break; }", "while (true) { if (o) { v = 1; break; } }", "while ((v = i) > 0) ;",
            "while (o || " + A + ") ;", "while (o || " + A + ") { v = 2; if (p) break; }", "while (!(o && " + A + ")) ;", "l: while (true) { v = 1; break l; }",
            "l: while (true) { while (true) { v = 1; break l; } }", "while (true) { while (true) break; v = 1; break; }",
            "do v = 1; while (o);", "do { v = 1; if (o) continue; } while (p);", "do ; while ((v = i) > 0);", "do { if (o) continue; } while ((v = i) > 0);", "do ; while (o || " + A + ");",
            "do ; while (!(o && " + A + "));", "do { v = 1; continue; } while (o);", "do { if (o) { v = 1; continue; } v = 2; } while (p);", "do { if (o) { v = 1; break; } } while (true);",
            "do { if (o) { v = 1; break; } v = 2; } while (p);", "l: do { while (o) { v = 1; continue l; } v = 2; } while (p);",
            "for (v = 1; o; ) ;", "for (i = 1, v = 1; o; ) ;", "for (int w = v = 1; o; ) ;", "for (; ; ) { v = 1; break; }", "for (; true; ) { v = 1; break; }", "for (; (v = i) > 0; ) ;",
            "for (; o || " + A + "; ) ;", "for (; ; i++) { if (o) { v = 1; break; } }", "l: for (; ; ) for (; ; ) { v = 1; break l; }"}) {
            behind(due, 1, row);
        }
        for (String row : new String[] {"while (o) v = 1;", "while (true) { if (o) break; v = 1; }", "while (true) { if (o) break; v = 1; break; }", "while (o && " + A + ") ;",
            "while (o || " + A + ") break;", "while (o) { v = 1; break; }", "l: while (true) { if (o) break l; v = 1; break; }", "l: while (true) { while (true) { if (o) break l; v = 1; } }",
            "do { if (o) break; v = 1; } while (p);", "do { if (o) continue; v = 1; } while (p);", "do { if (o) break; } while ((v = i) > 0);", "do ; while (o && " + A + ");", "do ; while (o);",
            "do { if (o) { v = 1; continue; } } while (p);", "do { if (o) continue; if (p) { v = 1; continue; } v = 2; } while (p);",
            "do { if (o) { v = 1; continue; } if (p) continue; v = 2; } while (p);", "while (true) { if (o) break; if (p) { v = 1; break; } }", "while (true) { if (o) { v = 1; break; } if (p) break; }", "do { if (o) { v = 1; break; } } while (p);", "l: do { while (o) continue l; v = 2; } while (p);", "do { if (o) v = 1; } while (p);",
            "for (; o; v = 1) ;", "for (; o; ) v = 1;", "for (; ; ) { if (o) break; v = 1; }", "for (; ; v = 1) { if (o) break; }", "for (; o && " + A + "; ) ;", "for (; ; ) if (o) break;",
            "for (int w = 1; o; v = 1) ;"}) {
            behind(due, 0, row);
        }
        // ahead of the condition and of what for does behind each round
        due.fine(HEAD + "int v; for (; o; out(v)) v = 1; }");
        due.fine(HEAD + "int v; for (; o; out(v)) { if (p) { v = 2; continue; } v = 1; } }");
        due.error(15, HEAD + "int v; for (; o; out(@v)) { if (p) continue; v = 1; } }");
        due.error(15, HEAD + "int v; for (; o; out(@v)) { if (p) { v = 1; continue; } } }");
        due.fine(HEAD + "int v; for (; " + A + "; out(v)) ; }");
        due.fine(HEAD + "int v; for (; o && " + A + "; out(v)) out(v); }");
        due.fine(HEAD + "int v; for (; o; v = 1, out(v)) ; }");
        due.error(15, HEAD + "int v; for (; o; out(@v), v = 1) ; }");
        due.fine(HEAD + "int v; do { if (o) { v = 2; continue; } v = 1; } while (v > 0); }");
        due.error(15, HEAD + "int v; do { if (o) continue; v = 1; } while (@v > 0); }");
        due.error(15, HEAD + "int v; while (@v > 0) v = 1; }");
        due.error(15, HEAD + "int v; while (o) { out(@v); v = 1; } }");
        due.fine(HEAD + "int v; l: do { do { v = 1; if (o) continue l; } while (p); } while (v > 0); }");
    }

    private static void behindSwitches(Due due) {
        for (String row : new String[] {"switch (v = i) { }", "switch (v = i) { case 1: break; }", "switch (i) { default: v = 1; }", "switch (i) { case 1: v = 1; break; default: v = 2; }",
            "switch (i) { case 1: default: v = 1; }", "switch (i) { default: v = 1; case 1: v = 2; }", "switch (i) { default: v = 1; break; case 1: return; }",
            "switch (i) { case 1: return; default: v = 1; }", "switch (i) { case 1: v = 1; break; case 2: v = 2; break; default: return; }", "switch (i) { default: case 1: v = 1; if (o) break; }",
            "switch (i) { case 1: v = 1; break; default: throw 1; }", "switch ((v = i) > 0 ? 1 : 2) { case 1: break; }", "l: switch (i) { default: v = 1; break l; case 1: v = 2; }"}) {
            behind(due, 1, row);
        }
        for (String row : new String[] {"switch (i) { }", "switch (i) { case 1: v = 1; }", "switch (i) { case 1: v = 1; break; }", "switch (i) { case 1: v = 1; default: }",
            "switch (i) { case 1: break; default: v = 1; }", "switch (i) { default: v = 1; case 1: }", "switch (i) { case 1: v = 1; case 2: break; default: v = 1; }",
            "switch (i) { default: if (o) break; v = 1; }", "switch (i) { default: }", "switch (i) { case 1: v = 1; break; case 2: v = 2; break; }", "switch (i) { default: v = 1; break; case 1: ; }",
            "l: switch (i) { case 1: break l; default: v = 1; }"}) {
            behind(due, 0, row);
        }
        // ahead of a case: what holds behind the exp and behind the S ahead of it
        assigned(due, HEAD + "int v; switch (i) { case 1: v = 1; out(1); case 2: out(2); default: out(3); } }", "out(1)", 1, "out(2)", 0, "out(3)", 0);
        assigned(due, HEAD + "int v; switch (v = i) { case 1: out(1); case 2: out(2); } }", "out(1)", 1, "out(2)", 1);
        assigned(due, HEAD + "int v; switch (i) { case 1: v = 1; break; case 2: out(2); } }", "out(2)", 0);
        assigned(due, HEAD + "if (false) switch (i) { case 1: int v; break; case 2: out(2); } }", "out(2)", 1);
        assigned(due, HEAD + "if (false) switch (i) { case 1: int v; case 2: out(2); } }", "out(2)", 0);
        assigned(due, HEAD + "if (false) switch (i) { case 1: int v = 1; case 2: out(2); } }", "out(2)", 1);
        assigned(due, HEAD + "switch (i) { case 1: int v = 1; out(1); case 2: out(2); } }", "out(1)", 1, "out(2)", 0);
        assigned(due, HEAD + "switch (i) { case 1: int v; break; case 2: out(2); v = 1; out(3); } }", "out(2)", 0, "out(3)", 1);
    }

    /** "behind a try: what is behind its block and its catch, and what is behind its finally; where a break, continue leads to, a finally on its way .." */
    private static void behindTries(Due due) {
        String[] does = {";", "v = 1;", "return;"};
        for (int block = 0; block < 3; block++) {
            for (int caught = 0; caught < 4; caught++) {
                for (int last = 0; last < 3; last++) {
                    if (caught < 3 || last < 2) {
                        String row = "try { " + does[block] + " }" + (caught < 3 ? " catch (e) { " + does[caught] + " }" : "") + (last < 2 ? " finally { " + does[last] + " }" : "");
                        boolean is = last == 1 || block > 0 && caught != 0;
                        boolean isReached = block < 2 || caught < 2;
                        if (isReached) {
                            behind(due, is ? 1 : 0, row);
                        }
                    }
                }
            }
        }
        for (String row : new String[] {"while (true) { try { break; } finally { v = 1; } }", "while (true) { try { v = 1; break; } finally { } }",
            "while (true) { try { ; } catch (e) { break; } finally { v = 1; } }", "l: { try { try { break l; } finally { } } finally { v = 1; } }",
            "l: { try { try { break l; } finally { v = 1; } } finally { } }", "do { try { continue; } finally { v = 1; } } while (o);", "l: try { break l; } catch (e) { v = 2; } finally { v = 1; }",
            "try { while (true) { v = 1; break; } } finally { }", "while (true) { try { while (true) break; v = 1; } finally { } break; }", "switch (i) { default: try { break; } finally { v = 1; } }",
            "while (true) { try { ; } finally { v = 1; break; } }", "do { try { if (o) continue; } finally { v = 1; } } while (p);", "l: { try { if (o) break l; } finally { v = 1; } }"}) {
            behind(due, 1, row);
        }
        for (String row : new String[] {"while (true) { try { break; } finally { } }", "while (true) { try { break; } finally { if (o) v = 1; } }", "while (true) { try { v = 1; } finally { break; } }",
            "while (true) { try { v = 1; } catch (e) { break; } finally { } }", "do { try { if (o) continue; v = 1; } finally { } } while (p);", "l: { try { if (o) break l; v = 1; } finally { } }",
            "l: { try { try { break l; } finally { ; } } catch (e) { v = 1; } finally { ; } }", "while (true) { try { while (true) break; } finally { } break; }",
            "while (true) { try { ; } finally { if (o) break; v = 1; } }"}) {
            behind(due, 0, row);
        }
    }

    /** "before a catch and a finally: what was before the try" */
    private static void aheadOfCatchAndFinally(Due due) {
        assigned(due, HEAD + "int v; try { v = 1; out(1); } catch (e) { out(2); } finally { out(3); } out(4); }", "out(1)", 1, "out(2)", 0, "out(3)", 0, "out(4)", 0);
        assigned(due, HEAD + "int v; try { v = 1; } catch (e) { v = 2; out(2); } finally { out(3); } out(4); }", "out(2)", 1, "out(3)", 0, "out(4)", 1);
        assigned(due, HEAD + "int v; v = 1; try { } catch (e) { out(2); } finally { out(3); } out(4); }", "out(2)", 1, "out(3)", 1, "out(4)", 1);
        assigned(due, HEAD + "int v; try { out(1); } catch (e) { out(2); } finally { v = 1; out(3); } out(4); }", "out(1)", 0, "out(2)", 0, "out(3)", 1, "out(4)", 1);
        assigned(due, HEAD + "int v; if (false) { try { out(1); } catch (e) { out(2); } finally { out(3); } } out(4); }", "out(1)", 1, "out(2)", 1, "out(3)", 1, "out(4)", 0);
        assigned(due, HEAD + "try { } catch (v) { out(1); } finally { } }", "out(1)", 1);
        assigned(due, HEAD + "try { } catch (v) { { out(1); } } }", "{ out(1)", 1, "out(1)", 1);
        due.error(15, HEAD + "int v; try { v = 1; } catch (e) { out(@v); } }");
        due.error(15, HEAD + "int v; try { v = 1; } finally { out(@v); } }");
    }

    /** "where a variable is told it is not, whatever held: not in its own exp, behind that it is, behind one without an exp it is not" */
    private static void whereItIsTold(Due due) {
        assigned(due, HEAD + "int v; out(1); v = 1; out(2); }", "out(1)", 0, "out(2)", 1);
        assigned(due, HEAD + "int v = 1; out(1); }", "out(1)", 1);
        assigned(due, HEAD + "final int v = i; out(1); }", "out(1)", 1);
        assigned(due, HEAD + "if (false) { int v; out(1); } }", "out(1)", 0);
        assigned(due, HEAD + "if (false) { int v = 1; out(1); } }", "out(1)", 1);
        assigned(due, HEAD + "for (int v = 1; o; ) out(1); }", "out(1)", 1);
        assigned(due, HEAD + "if (false) for (int v; o; ) out(1); }", "out(1)", 0);
        assigned(due, HEAD + "for (int v; o; v = 1) out(1); }", "out(1)", 0);
        assigned(due, HEAD + "while (o) { int v; out(1); v = 1; out(2); } }", "out(1)", 0, "out(2)", 1);
        due.error(15, HEAD + "int v = @v; }");
        due.error(15, HEAD + "int v = 1 + @v; }");
        due.error(15, HEAD + "int v = @v + (v = 1); }");
        due.fine(HEAD + "int v = (v = 1) + v; }");
        due.error(15, HEAD + "if (false) { int v = @v; } }");
        due.error(15, HEAD + "if (false) { int v; out(@v); } }");
        due.error(15, HEAD + "if (false) { for (int v = @v; ; ) ; } }");
        due.fine(HEAD + "int v; if (false) out(v); }");
        due.error(15, HEAD + "int v; if (false) { out(v); } out(@v); }");
    }

    /** Promise 15: "within its method, where it is known .. BAD: none such, or it is not known there" */
    private static void whereItIsKnown(Due due) {
        String text = "void n(int z) { ; } void m(int a) { out(1); int b; { out(2); int c = 3; out(4); } out(5); for (int d = 6; d < 7; d++) out(8); out(9); "
            + "try { int e; out(10); } catch (g) { out(11); } finally { out(12); } switch (a) { case 1: out(13); int h; case 2: out(14); } out(15); }";
        PlainJava x = Due.of(text);
        due.same("judge()", x.judge(), 0);
        // variables: 0 z, 1 a, 2 b, 3 c, 4 d, 5 e, 6 g, 7 h
        String[] rows = {"out(1)  B1BBBBBB", "int b   B1BBBBBB", "{ out(2 B10BBBBB", "out(2)  B10BBBBB", "int c   B10BBBBB", "out(4)  B101BBBB", "out(5)  B10BBBBB", "for (   B10BBBBB",
            "out(8)  B10B1BBB", "out(9)  B10BBBBB", "try {   B10BBBBB", "int e   B10BBBBB", "out(10) B10BB0BB", "out(11) B10BBB1B", "out(12) B10BBBBB", "switch  B10BBBBB",
            "out(13) B10BBBBB", "int h   B10BBBBB", "out(14) B10BBBB0", "out(15) B10BBBBB", "; }     1BBBBBBB"};
        for (String row : rows) {
            int token = Due.tokenAt(text, row.substring(0, 8).trim(), 0);
            for (int k = 0; k < 8; k++) {
                char c = row.charAt(8 + k);
                due.same("assigned ahead of " + row, x.assigned(token, k), c == 'B' ? PlainJava.BAD : c - '0');
            }
        }
        int at = Due.tokenAt(text, "out(1)", 0);
        for (int k : new int[] {-1, 8, 9, 63, 64, 65, -63, -64, Integer.MIN_VALUE, Integer.MAX_VALUE}) {
            due.same("assigned of variable " + k, x.assigned(at, k), PlainJava.BAD);
        }
        for (String none : new String[] {"void m", "m(int", "{ out(1", "1);", "int d", "d < 7", "{ int e", "catch", "{ out(11", "finally", "case 1", "case 2", "} out(5"}) {
            due.same("no S begins at " + none, x.assigned(Due.tokenAt(text, none, 0), 1), PlainJava.BAD);
        }
        for (int i : new int[] {-1, Due.tokens(text).size(), 500, 501, Integer.MIN_VALUE, Integer.MAX_VALUE}) {
            due.same("assigned(" + i + ", 1)", x.assigned(i, 1), PlainJava.BAD);
        }
    }
}
