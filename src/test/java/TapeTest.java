/** Promises 1 to 3, and what told() says of an object that is new. */
final class TapeTest {
    public static void main(String[] args) {
        Due due = new Due();
        isNew(due);
        feeds(due);
        cuts(due);
        due.end();
    }

    private static void isNew(Due due) {
        PlainJava x = new PlainJava();
        for (int what = 0; what <= 3; what++) {
            due.same("new: told(" + what + ")", x.told(what), 0);
        }
        due.same("new: told(4)", x.told(4), PlainJava.BAD);
        due.same("new: told(-1)", x.told(-1), PlainJava.BAD);
        due.same("new: place()", x.place(), PlainJava.NO);
        due.same("new: judge()", x.judge(), 0);
        due.same("new: place() behind judge()", x.place(), PlainJava.NO);
        due.same("new: cut(0)", x.cut(0), 0);
        due.same("new: cut(1)", x.cut(1), PlainJava.BAD);
        due.same("new: token(0, 0)", x.token(0, 0), PlainJava.BAD);
        due.same("new: method(0, 0)", x.method(0, 0), PlainJava.BAD);
        due.same("new: variable(0, 0)", x.variable(0, 0), PlainJava.BAD);
        due.same("new: means(0)", x.means(0), PlainJava.BAD);
        due.same("new: type(0, 0)", x.type(0, 0), PlainJava.BAD);
        due.same("new: constant(0, 0)", x.constant(0, 0), Due.NOTHING);
        due.same("new: ends(0)", x.ends(0), PlainJava.BAD);
        due.same("new: assigned(0, 0)", x.assigned(0, 0), PlainJava.BAD);
        due.same("new: run(0, 1)", x.run(0, 1), PlainJava.BAD);
        due.same("new: ran(0)", x.ran(0), Due.NOTHING);
        due.same("new: drain()", x.drain(), 0);
        due.same("new: read()", x.read(), 0);
        // arguments are 0
        PlainJava y = Due.of("int m(int a, boolean b) { return b ? 7 : a; }");
        due.same("arguments of a new object: run", y.run(0, 10), 1);
        due.same("arguments of a new object: ran(0)", y.ran(0), 0);
    }

    private static void feeds(Due due) {
        PlainJava x = new PlainJava();
        // "void m() { out('~'); }" and blanks: the highest byte of each int goes first
        due.same("feed", x.feed(0x766f6964, 0x206d2829, 0x207b206f, 0x75742827, 0x7e27293b), 20);
        due.same("feed", x.feed(0x207d2020, 0x20202020, 0x20202020, 0x20202020, 0x20202020), 40);
        due.same("read()", x.read(), 1);
        due.same("run(0, 9)", x.run(0, 9), 0);
        due.same("ran(10)", x.ran(10), '~');
        int blank = 0x20202020;
        for (int i = 1; i <= 125; i++) {
            due.same("feed " + i, x.feed(blank, blank, blank, blank, blank), 20 * i);
        }
        due.same("feed 126", x.feed(blank, blank, blank, blank, blank), PlainJava.FULL);
        due.same("cut(0) of a full tape", x.cut(0), 2500);
        due.same("cut(19)", x.cut(19), 2481);
        due.same("feed on 2481", x.feed(blank, blank, blank, blank, blank), PlainJava.FULL);
        due.same("cut(1)", x.cut(1), 2480);
        due.same("feed on 2480", x.feed(blank, blank, blank, blank, blank), 2500);
        due.same("read() of 2500 blanks", x.read(), 0);
        due.same("the tape is empty behind read()", x.cut(0), 0);
    }

    private static void cuts(Due due) {
        PlainJava x = new PlainJava();
        Due.feed(x, "void m() { } void broken");
        due.same("cut(25)", x.cut(25), PlainJava.BAD);
        due.same("cut(-1)", x.cut(-1), PlainJava.BAD);
        due.same("cut(the least int)", x.cut(Integer.MIN_VALUE), PlainJava.BAD);
        due.same("cut(12): the last bytes go", x.cut(12), 12);
        due.same("read()", x.read(), 1);
        Due.feed(x, "abc");
        due.same("cut(3)", x.cut(3), 0);
        due.same("read() of nothing", x.read(), 0);
    }
}
