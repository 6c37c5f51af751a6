/**
 * What the document can be read in more than one way about, as this class reads it (the closing notes of the issues say
 * so): by its plainest words, and in the same way wherever it comes up.
 */
final class ReadingsTest {
    public static void main(String[] args) {
        Due due = new Due();
        whatIsTooDeep(due);
        argumentsBesideOneAtFault(due);
        choicesOfTwoKinds(due);
        callsWithinThirty(due);
        stepsOfWhatIsRefused(due);
        stepsComeFirst(due);
        breaksInACatch(due);
        castsOfBooleans(due);
        due.end();
    }

    /** "what stands within more than 20 others .. at its first token, whatever it is": also a ) at once, and the end. */
    private static void whatIsTooDeep(Due due) {
        String[] kinds = {"f(@)", "1 + f(@)"};
        for (String kind : kinds) {
            due.readable("void m() " + Due.repeated("{ ", 19) + kind.replace("@", "") + ";" + Due.repeated(" }", 19), 1);
            due.fault(3, "void m() " + Due.repeated("{ ", 20) + kind + ";" + Due.repeated(" }", 20));
        }
        due.readable(Due.m(Due.repeated("(", 18) + "f()" + Due.repeated(")", 18) + ";"), 1);
        due.fault(3, Due.m(Due.repeated("(", 19) + "f(@)" + Due.repeated(")", 19) + ";"));
        for (String open : new String[] {"{", "if (a)", "do", "l:", "switch (a) {", "try {", "(", "f(", "-", "(int)", "a ="}) {
            due.fault(2, "void m() " + Due.repeated("{ ", 19) + open);
            due.fault(3, "void m() " + Due.repeated("{ ", 20) + open);
            due.fault(3, "void m() " + Due.repeated("{ ", 20) + open + "   // the end");
        }
    }

    /** "a call tells none if an argument is at fault": a void argument beside it is at fault by itself. */
    private static void argumentsBesideOneAtFault(Due due) {
        due.error(5, Due.m("n(@out(1), q);"));
        due.error(3, Due.m("n(@q, out(1));"));
        due.error(5, Due.m("out(@out(1), 9999999999);"));
    }

    /** "(two booleans or two numbers)": the one behind the : is of another type than is wanted. */
    private static void choicesOfTwoKinds(Due due) {
        due.error(5, Due.m("out(in() > 1 ? 1 : @true);"));
        due.error(5, Due.m("out(in() > 1 ? true : @1);"));
    }

    /** "a call within 30 others": calls of out and in are calls, as they are among the STEPS. */
    private static void callsWithinThirty(Due due) {
        PlainJava x = Due.of("void m(int n) { if (n > 1) m(n - 1); else out(5); } void k(int n) { if (n > 1) k(n - 1); else in(); }");
        for (int n = 28; n <= 31; n++) {
            x.argument(0, n);
            due.same("out within " + n, x.run(0, 20000), n < 30 ? 0 : 4);
            due.same("ran(2)", x.ran(2), n < 30 ? 1 : 0);
            due.same("in within " + n, x.run(1, 20000), n < 30 ? 0 : 4);
            due.same("ran(3)", x.ran(3), n < 30 ? 1 : 0);
        }
    }

    /** The STEP of a call comes first: it is done when the call is one within 30 others, or tells the 201st number. */
    private static void stepsOfWhatIsRefused(Due due) {
        PlainJava x = Due.of("void m() { m(); }");
        due.same("run", x.run(0, 20000), 4);
        due.same("30 calls, an S in each, and the 31st call", x.ran(1), 61);
        due.same("run with as many STEPS", x.run(0, 61), 4);
        due.same("run with one less", x.run(0, 60), 3);
        PlainJava y = Due.of("void m() { for (; ; ) out(5); }");
        due.same("run", y.run(0, 20000), 5);
        due.same("the first call, the S, and 201 times a condition, an S, a call", y.ran(1), 2 + 201 * 3);
        due.same("run with as many STEPS", y.run(0, 605), 5);
        due.same("run with one less", y.run(0, 604), 3);
    }

    /** The STEP of a condition comes before what it works out, the STEP of a call behind its arguments. */
    private static void stepsComeFirst(Due due) {
        int[][] rows = {{1, 0, 0}, {2, 0, 0}, {3, 0, 0}, {4, 1, 0}, {5, 1, 0}, {6, 2, 0}, {7, 2, 1}};
        for (int[] row : rows) {
            PlainJava x = Due.of("void m() { while (in() > 0) ; out(in()); }");
            due.same("run(0, " + row[0] + ")", x.run(0, row[0]), row[0] < 7 ? 3 : 0);
            due.same("taken in " + row[0] + " STEPS", x.ran(3), row[1]);
            due.same("told in " + row[0] + " STEPS", x.ran(2), row[2]);
        }
    }

    /** A break out of a catch goes through its finally, too: if that can't end, the break leads nowhere. */
    private static void breaksInACatch(Due due) {
        due.error(13, Due.m("while (true) try { } catch (e) { break; } finally { return; } @;"));
        due.error(13, Due.m("l: { try { in(); } catch (e) { break l; } finally { throw 1; } } @;"));
        due.fine(Due.m("while (true) try { } catch (e) { break; } finally { out(1); } ;"));
    }

    /** A cast of a boolean is no operator that holds more when it is true, or false. */
    private static void castsOfBooleans(Due due) {
        due.error(15, "void m(boolean o, int i) { int v; if ((boolean) (o && (v = i) > 0)) out(@v); }");
        due.fine("void m(boolean o, int i) { int v; if ((boolean) (o & (v = i) > 0)) out(v); }");
        due.fine("void m(boolean o, int i) { int v; if ((boolean) false) out(v); }");
    }
}
