import java.util.ArrayList;
import java.util.List;
import java.util.function.Consumer;

/**
 * What a FAULT and a call that is refused or only asks leave as it was: all that an object answers behind it is what a
 * second object answers on which the call was not made.
 */
final class StaysTest {
    private static final String FINE = "int m(int a, byte b) { final int c = 5; int d; if (a > b) d = in(); else d = c; out(d); l: while (d > 9) d--; return d; }";
    private static final String WITH_AN_ERROR = "int m(int a) { out(a); int d; return d; }";
    private static final int BLANK = 0x20202020;

    public static void main(String[] args) {
        Due due = new Due();
        refusedCalls(due);
        askingCalls(due);
        refusedWithAnError(due);
        fullOnes(due);
        faults(due);
        faultsOfEachKind(due);
        readBeginsAnew(due);
        manyPrograms(due);
        due.end();
    }

    /** An object in use: it has read, run, and has a tape, INPUTS and arguments. */
    private static PlainJava used(String text) {
        PlainJava x = Due.of(text);
        x.argument(0, 300);
        x.argument(1, 200);
        x.input(12);
        x.input(7);
        x.run(0, 100);
        Due.feed(x, "void next() { out(77); }");
        return x;
    }

    /** All that an object tells, at last by calls that change it; less than 400 calls. */
    private static List<Long> told(PlainJava x) {
        List<Long> all = new ArrayList<>();
        for (int what = 0; what <= 3; what++) {
            all.add((long) x.told(what));
        }
        int tokens = x.told(0);
        for (int i = 0; i < tokens; i++) {
            all.add((long) x.token(i, i % 3));
            all.add((long) x.means(i));
            all.add((long) x.ends(i));
            all.add((long) x.assigned(i, i % 4));
            all.add((long) x.type(i, i));
        }
        for (int i = 0; i < 8; i++) {
            all.add(x.constant(i + 14, i + 14));
            all.add((long) x.method(0, i < 3 ? i : i + 7));
            all.add((long) x.variable(i / 2, i % 2 + 1));
            all.add(x.ran(i < 5 ? i : i + 5));
        }
        all.add((long) x.judge());
        all.add((long) x.place());
        for (int round = 0; round < 2; round++) {
            all.add((long) x.run(0, 100));
            for (int what = 0; what <= 4; what++) {
                all.add(x.ran(what));
            }
            all.add(x.ran(10));
        }
        all.add((long) x.cut(0));
        all.add((long) x.read());
        all.add((long) x.told(0));
        all.add((long) x.run(0, 100));
        all.add(x.ran(10));
        all.add((long) x.drain());
        return all;
    }

    private static void same(Due due, String what, PlainJava got, PlainJava want) {
        List<Long> g = told(got);
        List<Long> w = told(want);
        due.same(what + ": how much is told", g.size(), w.size());
        for (int i = 0; i < w.size() && i < g.size(); i++) {
            due.same(what + ": answer " + i, g.get(i), w.get(i));
        }
    }

    private static void stays(Due due, String text, String what, Consumer<PlainJava> call) {
        PlainJava x = used(text);
        int place = x.place();
        call.accept(x);
        due.same(what + ": place()", x.place(), place);
        same(due, what, x, used(text));
    }

    private static void refusedCalls(Due due) {
        stays(due, FINE, "cut(25)", x -> due.same("cut(25)", x.cut(25), PlainJava.BAD));
        stays(due, FINE, "cut(-1)", x -> due.same("cut(-1)", x.cut(-1), PlainJava.BAD));
        stays(due, FINE, "cut(the least)", x -> due.same("cut", x.cut(Integer.MIN_VALUE), PlainJava.BAD));
        stays(due, FINE, "argument(6)", x -> due.same("argument", x.argument(6, 1), PlainJava.BAD));
        stays(due, FINE, "argument(-1)", x -> due.same("argument", x.argument(-1, 1), PlainJava.BAD));
        stays(due, FINE, "run(1, 100)", x -> due.same("run", x.run(1, 100), PlainJava.BAD));
        stays(due, FINE, "run(-1, 100)", x -> due.same("run", x.run(-1, 100), PlainJava.BAD));
        stays(due, FINE, "run(10, 100)", x -> due.same("run", x.run(10, 100), PlainJava.BAD));
        stays(due, FINE, "run(0, 0)", x -> due.same("run", x.run(0, 0), PlainJava.BAD));
        stays(due, FINE, "run(0, 20001)", x -> due.same("run", x.run(0, 20001), PlainJava.BAD));
        stays(due, FINE, "ran(5)", x -> due.same("ran", x.ran(5), Due.NOTHING));
        stays(due, FINE, "told(4)", x -> due.same("told", x.told(4), PlainJava.BAD));
        stays(due, FINE, "token(-1, 0)", x -> due.same("token", x.token(-1, 0), PlainJava.BAD));
        stays(due, FINE, "token(0, 3)", x -> due.same("token", x.token(0, 3), PlainJava.BAD));
        stays(due, FINE, "method(1, 0)", x -> due.same("method", x.method(1, 0), PlainJava.BAD));
        stays(due, FINE, "variable(4, 0)", x -> due.same("variable", x.variable(4, 0), PlainJava.BAD));
        stays(due, FINE, "means(0)", x -> due.same("means", x.means(0), PlainJava.BAD));
        stays(due, FINE, "type(0, 0)", x -> due.same("type", x.type(0, 0), PlainJava.BAD));
        stays(due, FINE, "constant(0, 0)", x -> due.same("constant", x.constant(0, 0), Due.NOTHING));
        stays(due, FINE, "ends(0)", x -> due.same("ends", x.ends(0), PlainJava.BAD));
        stays(due, FINE, "assigned(0, 0)", x -> due.same("assigned", x.assigned(0, 0), PlainJava.BAD));
    }

    private static void askingCalls(Due due) {
        stays(due, FINE, "judge()", x -> due.same("judge", x.judge(), 0));
        stays(due, FINE, "cut(0)", x -> due.same("cut", x.cut(0), 24));
        stays(due, FINE, "told(0)", x -> due.same("told", x.told(0), Due.tokens(FINE).size()));
        stays(due, FINE, "ran(1)", x -> due.same("ran", x.ran(1) > 0 ? 1 : 0, 1));
        stays(due, FINE, "token(0, 0)", x -> due.same("token", x.token(0, 0), 0));
        stays(due, FINE, "ends(10)", x -> due.same("ends", x.ends(10), 1));
        // argument and input change nothing of what ran
        PlainJava x = used(FINE);
        long before = x.ran(10);
        due.same("argument", x.argument(0, 1), 1);
        due.same("input", x.input(1), 3);
        due.same("drain", x.drain(), 3);
        due.same("ran(10)", x.ran(10), before);
        due.same("ran(3)", x.ran(3), 1);
    }

    private static void refusedWithAnError(Due due) {
        stays(due, WITH_AN_ERROR, "run(0, 100)", x -> due.same("run", x.run(0, 100), PlainJava.NO));
        stays(due, WITH_AN_ERROR, "run(1, 100)", x -> due.same("run", x.run(1, 100), PlainJava.BAD));
        stays(due, WITH_AN_ERROR, "means(1)", x -> due.same("means", x.means(1), PlainJava.NO));
        stays(due, WITH_AN_ERROR, "type(0, 0)", x -> due.same("type", x.type(0, 0), PlainJava.NO));
        stays(due, WITH_AN_ERROR, "ends(7)", x -> due.same("ends", x.ends(7), PlainJava.NO));
        stays(due, WITH_AN_ERROR, "assigned(7, 0)", x -> due.same("assigned", x.assigned(7, 0), PlainJava.NO));
        PlainJava x = used(WITH_AN_ERROR);
        due.same("judge()", x.judge(), 15);
        due.same("place()", x.place(), 37);
        due.same("judge() again", x.judge(), 15);
        due.same("place() again", x.place(), 37);
        due.same("ran(1)", x.ran(1), Due.NOTHING);
    }

    private static PlainJava full() {
        PlainJava x = Due.of(FINE);
        for (int i = 0; i < 40; i++) {
            x.input(i + 10);
        }
        x.run(0, 100);
        for (int i = 0; i < 124; i++) {
            x.feed(BLANK, BLANK, BLANK, BLANK, BLANK);
        }
        // "void m() { out(7); }"
        x.feed(0x766f6964, 0x206d2829, 0x207b206f, 0x75742837, 0x293b207d);
        return x;
    }

    private static String ofFull(PlainJava x) {
        StringBuilder all = new StringBuilder();
        all.append(x.told(3)).append(' ').append(x.ran(10)).append(' ').append(x.run(0, 100)).append(' ').append(x.ran(10)).append(' ').append(x.cut(0)).append(' ');
        all.append(x.read()).append(' ').append(x.token(0, 0)).append(' ').append(x.run(0, 9)).append(' ').append(x.ran(10)).append(' ').append(x.drain());
        return all.toString();
    }

    private static void fullOnes(Due due) {
        String want = ofFull(full());
        due.same("a full one: " + want, want.equals("40 5 1 5 2500 1 2480 0 7 40") ? 1 : 0, 1);
        PlainJava x = full();
        due.same("input", x.input(99), PlainJava.FULL);
        due.same("feed", x.feed(1, 2, 3, 4, 5), PlainJava.FULL);
        due.same("input", x.input(98), PlainJava.FULL);
        String got = ofFull(x);
        due.same("behind FULL: " + got, got.equals(want) ? 1 : 0, 1);
        // a part of twenty bytes is not taken either
        PlainJava y = full();
        y.cut(1);
        due.same("feed", y.feed(0x7d7d7d7d, 0x7d7d7d7d, 0x7d7d7d7d, 0x7d7d7d7d, 0x7d7d7d7d), PlainJava.FULL);
        due.same("cut(0)", y.cut(0), 2499);
        due.same("read()", y.read(), -12);
        due.same("place()", y.place(), 2499);
    }

    /** "-10 less the FAULT (the program stays)": all but THE TAPE, which is empty then, and place(). */
    private static void faults(Due due) {
        // the mark ^ stands where the FAULT is
        String[] marked = {"^#", "void^", "void m(int a, int b, int c, int d, int e, int f, int ^g) { }", "void m() { x = (1 + ^", "boolean z(long q) { int w = 3; while (w < q) ; } ^}",
            "void m() { int a; a = 1; out(a); } int n() { return ^12345678901234567890; }"};
        int[] fault = {1, 2, 3, 2, 2, 1};
        for (int i = 0; i < marked.length; i++) {
            String wrong = marked[i].replace("^", "");
            for (String text : new String[] {FINE, WITH_AN_ERROR, ""}) {
                PlainJava x = used(text);
                x.cut(24);
                Due.feed(x, wrong);
                due.same("read() of " + wrong, x.read(), -10 - fault[i]);
                due.same("place() of " + wrong, x.place(), marked[i].indexOf('^'));
                due.same("THE TAPE is empty", x.cut(0), 0);
                due.same("cut(1)", x.cut(1), PlainJava.BAD);
                PlainJava y = used(text);
                y.cut(24);
                same(due, "behind the FAULT of " + wrong, x, y);
            }
        }
    }

    private static void faultsOfEachKind(Due due) {
        // several FAULTS behind one another, then a program again
        PlainJava x = used(FINE);
        x.cut(24);
        for (String wrong : new String[] {"#", "int", "void m() { { { { { { { { { { { { { { { { { { { { { } ", "@", "m", ""}) {
            if (!wrong.isEmpty()) {
                Due.feed(x, wrong);
                due.same("read() of " + wrong, x.read() < -10 ? 1 : 0, 1);
                due.same("told(0)", x.told(0), Due.tokens(FINE).size());
            }
        }
        PlainJava y = used(FINE);
        y.cut(24);
        same(due, "behind many FAULTS", x, y);
    }

    /** One object reads many programs, with an ERROR and without, small and as big as can be: each is as on a new object. */
    private static void manyPrograms(Due due) {
        String big = "int m(){int a=0;" + Due.repeated("a+=1;", 121) + "return a;}";
        String[] texts = {FINE, WITH_AN_ERROR, "", FINE, "void a(int x) { out(x); }", WITH_AN_ERROR, WITH_AN_ERROR, FINE, "boolean m(boolean b) { return !b; }", FINE};
        PlainJava x = new PlainJava();
        for (String text : texts) {
            Due.feed(x, text);
            PlainJava y = Due.of(text);
            due.same("read() of " + text, x.read(), text.isEmpty() ? 0 : 1);
            for (int what = 0; what <= 2; what++) {
                due.same("told(" + what + ") of " + text, x.told(what), y.told(what));
            }
            due.same("judge() of " + text, x.judge(), y.judge());
            due.same("place() of " + text, x.place(), y.place());
            due.same("variable(0, 0) of " + text, x.variable(0, 0), y.variable(0, 0));
            due.same("variable(1, 1) of " + text, x.variable(1, 1), y.variable(1, 1));
            due.same("variable(3, 0) of " + text, x.variable(3, 0), y.variable(3, 0));
            due.same("ends(10) of " + text, x.ends(10), y.ends(10));
            due.same("run of " + text, x.run(0, 100), y.run(0, 100));
            due.same("ran(0) of " + text, x.ran(0), y.ran(0));
            due.same("ran(1) of " + text, x.ran(1), y.ran(1));
        }
        PlainJava z = new PlainJava();
        // each time 32 feeds, a cut and three calls: as many as there may be with 512
        for (int i = 0; i < 14; i++) {
            Due.feed(z, i % 2 == 0 ? big : big.replace("+=1", "-=2"));
            due.same("read()", z.read(), 1);
            due.same("run", z.run(0, 200), 1);
            due.same("ran(0)", z.ran(0), i % 2 == 0 ? 121 : -242);
        }
    }

    /** Promise 20: "Of the latest run() of this program (what was told since the latest read() without a FAULT)" */
    private static void readBeginsAnew(Due due) {
        PlainJava x = used(FINE);
        due.same("ran(1)", x.ran(1) > 0 ? 1 : 0, 1);
        due.same("read()", x.read(), 1);
        for (int what : new int[] {0, 1, 2, 3, 4, 10}) {
            due.same("ran(" + what + ") behind read()", x.ran(what), Due.NOTHING);
        }
        due.same("told(0)", x.told(0), 11);
        due.same("told(2)", x.told(2), 0);
        due.same("INPUTS stay", x.told(3), 2);
        due.same("run", x.run(0, 100), 0);
        due.same("ran(10)", x.ran(10), 77);
        // the same text again is another program
        Due.feed(x, "void next() { out(77); }");
        due.same("read()", x.read(), 1);
        due.same("ran(10)", x.ran(10), Due.NOTHING);
        // also one of no methods, and one with an ERROR
        due.same("run", x.run(0, 100), 0);
        due.same("read() of nothing", x.read(), 0);
        due.same("ran(10)", x.ran(10), Due.NOTHING);
        due.same("told(0)", x.told(0), 0);
        due.same("told(1)", x.told(1), 0);
        due.same("run", x.run(0, 100), PlainJava.BAD);
        Due.feed(x, "void m() { x; }");
        due.same("read()", x.read(), 1);
        due.same("run", x.run(0, 100), PlainJava.NO);
        due.same("ran(1)", x.ran(1), Due.NOTHING);
        Due.feed(x, "int m(int a) { return a + in(); }");
        due.same("read()", x.read(), 1);
        due.same("judge()", x.judge(), 0);
        due.same("place()", x.place(), PlainJava.NO);
        due.same("run", x.run(0, 100), 1);
        due.same("argument and INPUT of before", x.ran(0), 312);
        // a bigger program, then a smaller one: nothing of the bigger one is left
        PlainJava y = Due.of(FINE);
        Due.feed(y, "void a() { } void b() { }");
        due.same("read()", y.read(), 2);
        due.same("told(0)", y.told(0), 12);
        due.same("told(1)", y.told(1), 2);
        due.same("told(2)", y.told(2), 0);
        due.same("token(12, 0)", y.token(12, 0), PlainJava.BAD);
        due.same("variable(0, 0)", y.variable(0, 0), PlainJava.BAD);
        due.same("ends(17)", y.ends(17), PlainJava.BAD);
        due.same("type(14, 14)", y.type(14, 14), PlainJava.BAD);
        due.same("means(16)", y.means(16), PlainJava.BAD);
        Due.feed(y, "void c() { } ");
        due.same("read()", y.read(), 1);
        due.same("told(1)", y.told(1), 1);
        due.same("told(2)", y.told(2), 0);
        due.same("ends(9)", y.ends(9), PlainJava.BAD);
        due.same("judge()", y.judge(), 0);
    }
}
