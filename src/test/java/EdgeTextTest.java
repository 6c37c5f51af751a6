/**
 * The boundaries that the document's 'Terms, 1 TEXTS' and promises 1 to 5, 8 to 10 name: at each of them, one
 * before it and one behind it.
 */
final class EdgeTextTest {
    private static final int BLANK = 0x20202020;
    private static final int WRONG = 0x23232323;

    public static void main(String[] args) {
        Due due = new Due();
        theTapeHasUpTo2500Bytes(due);
        theHighestByteFirst(due);
        asManyAsThereAreAreCut(due);
        whatWasCutIsGone(due);
        whatATokenBeginsWith(due);
        namesHaveAtMostTen(due);
        namesDifferInEveryByte(due);
        namesDifferByTwo(due);
        wordsAreNoNames(due);
        numbersHaveUpToNineteen(due);
        charactersAreWhole(due);
        blanksAndRemarks(due);
        signsAreAsLongAsCanBe(due);
        signsAreCutOneByOne(due);
        signsThatAreNoOperators(due);
        strengths(due);
        theEndIsTheTextsLength(due);
        whatGoesAheadAtOneToken(due);
        the501stToken(due);
        theEleventhMethod(due);
        theSeventhParam(due);
        the61stVariable(due);
        withinMoreThan20(due);
        withinMoreThan20OfAnExp(due);
        withinNoMore(due);
        withinMoreThan20WhateverItIs(due);
        placeIsOfTheLatest(due);
        due.end();
    }

    // ---- THE TAPE

    private static void fill(PlainJava x, int times) {
        for (int i = 0; i < times; i++) {
            x.feed(BLANK, BLANK, BLANK, BLANK, BLANK);
        }
    }

    /** "THE TAPE has up to 2500 bytes." "FULL: more than 2500." */
    private static void theTapeHasUpTo2500Bytes(Due due) {
        PlainJava x = new PlainJava();
        fill(x, 124);
        due.same("feed on 2480", x.feed(0x766f6964, 0x206d2829, 0x207b206f, 0x75742837, 0x293b207d), 2500);
        due.same("feed on 2500", x.feed(WRONG, WRONG, WRONG, WRONG, WRONG), PlainJava.FULL);
        due.same("feed on 2500 again", x.feed(WRONG, WRONG, WRONG, WRONG, WRONG), PlainJava.FULL);
        due.same("it has as many as before", x.cut(0), 2500);
        due.same("and the same: read()", x.read(), 1);
        due.same("place of its first token", x.token(0, 0), 2480);
        due.same("place of its last token", x.token(x.told(0) - 1, 0), 2499);
        due.same("run", x.run(0, 9), 0);
        due.same("ran(10)", x.ran(10), 7);
        due.same("behind read() there is room again", x.feed(BLANK, BLANK, BLANK, BLANK, BLANK), 20);
        for (int more = 1; more <= 20; more++) {
            PlainJava y = new PlainJava();
            fill(y, 125);
            y.cut(20 - more);
            due.same("feed on " + (2480 + more), y.feed(WRONG, WRONG, WRONG, WRONG, WRONG), PlainJava.FULL);
            due.same("which stay", y.cut(0), 2480 + more);
            due.same("and are as they were", y.read(), 0);
        }
    }

    /** "Twenty bytes .., the highest of each int first" */
    private static void theHighestByteFirst(Due due) {
        // ints below 0: bytes of 128 and more, which may stand in a remark
        PlainJava x = new PlainJava();
        due.same("feed", x.feed(0x2f2f80ff, 0xffeeddcc, 0x80000000, 0xff00ff00, 0x8181810a), 20);
        due.same("feed", x.feed(0x696e7420, 0x6d28297b, 0x72657475, 0x726e2031, 0x3b7d2f2f), 40);
        due.same("read()", x.read(), 1);
        for (int i = 0; i < 5; i++) {
            due.same("place of token " + i, x.token(i, 0), new int[] {20, 24, 25, 26, 27}[i]);
        }
        for (int at = 0; at < 20; at++) {
            byte[] bytes = new byte[20];
            java.util.Arrays.fill(bytes, (byte) ' ');
            bytes[at] = '#';
            PlainJava y = new PlainJava();
            Due.feed(y, bytes);
            due.same("read() of # at " + at, y.read(), -11);
            due.same("place() of # at " + at, y.place(), at);
        }
    }

    /** "THE TAPE's last n bytes go .. BAD: there are not so many." */
    private static void asManyAsThereAreAreCut(Due due) {
        PlainJava x = new PlainJava();
        due.same("cut(0) of none", x.cut(0), 0);
        due.same("cut(1) of none", x.cut(1), PlainJava.BAD);
        due.same("cut(-1) of none", x.cut(-1), PlainJava.BAD);
        fill(x, 1);
        due.same("cut(21) of 20", x.cut(21), PlainJava.BAD);
        due.same("cut(the greatest) of 20", x.cut(Integer.MAX_VALUE), PlainJava.BAD);
        due.same("cut(the least) of 20", x.cut(Integer.MIN_VALUE), PlainJava.BAD);
        due.same("cut(-1) of 20", x.cut(-1), PlainJava.BAD);
        due.same("20 are left", x.cut(0), 20);
        due.same("cut(19)", x.cut(19), 1);
        due.same("cut(2) of 1", x.cut(2), PlainJava.BAD);
        due.same("feed behind 1", x.feed(0x766f6964, 0x206d2829, 0x207b2023, 0x23232323, 0x23232323), 21);
        due.same("cut(9)", x.cut(9), 12);
        due.same("feed behind 12", x.feed(0x7d202020, BLANK, BLANK, BLANK, BLANK), 32);
        due.same("read()", x.read(), 1);
        due.same("place of its first token", x.token(0, 0), 1);
        due.same("place of its last token", x.token(5, 0), 12);
        due.same("cut(1) behind read()", x.cut(1), PlainJava.BAD);
        fill(x, 1);
        due.same("cut(20) of 20", x.cut(20), 0);
    }

    /** What stood behind the last byte, before it was cut or in an earlier text, belongs to no token. */
    private static void whatWasCutIsGone(Due due) {
        String[][] rows = {{"void m() { x = @'a", "'; }"}, {"void abcdefghij", "k() { }"}, {"void m() { x = 1234567890123456789", "0; }"}, {"void m() { } @/", "/ x"},
            {"void m() { x = a &", "& b; }"}, {"void m() { x = 1", "L; }"}, {"void", "x() { }"}, {"@voi", "d m() { }"}, {"void m() {", "}"}, {"void m() { x = @'", "a'; }"}};
        int[] faults = {1, 2, 2, 2, 2, 2, 2, 2, 2, 1};
        for (int i = 0; i < rows.length; i++) {
            String text = rows[i][0].replace("@", "");
            int place = rows[i][0].indexOf('@') < 0 ? text.length() : rows[i][0].indexOf('@');
            PlainJava x = new PlainJava();
            Due.feed(x, text + rows[i][1]);
            due.same("cut", x.cut(rows[i][1].length()), text.length());
            due.same("read() of " + text + " without " + rows[i][1], x.read(), -10 - faults[i]);
            due.same("place()", x.place(), place);
            // and what an earlier text had there
            PlainJava y = new PlainJava();
            Due.feed(y, text + rows[i][1]);
            y.read();
            Due.feed(y, text);
            due.same("read() of " + text + " behind a longer text", y.read(), -10 - faults[i]);
            due.same("place()", y.place(), place);
        }
        PlainJava x = new PlainJava();
        Due.feed(x, "void m() { out(1); } # this is cut");
        due.same("cut", x.cut(14), 20);
        due.same("read()", x.read(), 1);
        Due.feed(x, "int n() { return 7; }");
        due.same("read()", x.read(), 1);
        due.same("told(0)", x.told(0), 9);
        due.same("run", x.run(0, 9), 1);
    }

    // ---- tokens

    /** "1 no token begins there": what each of the 256 bytes is at the beginning of a text. */
    private static void whatATokenBeginsWith(Due due) {
        String blanks = "\t\n\r ";
        String signs = "(){};,:?=+-*/%&|^<>!~";
        for (int b = 0; b < 256; b++) {
            PlainJava x = new PlainJava();
            Due.feed(x, new byte[] {(byte) b});
            boolean isLetter = b >= 'a' && b <= 'z' || b >= 'A' && b <= 'Z';
            boolean begins = isLetter || b >= '0' && b <= '9' || signs.indexOf(b) >= 0;
            boolean isBlank = blanks.indexOf(b) >= 0;
            due.same("read() of byte " + b, x.read(), isBlank ? 0 : begins ? -12 : -11);
            due.same("place() of byte " + b, x.place(), isBlank ? PlainJava.NO : 0);
            // within a NAME: letters and digits go on, all else ends it
            PlainJava y = new PlainJava();
            Due.feed(y, new byte[] {'i', 'n', 't', ' ', 'a', (byte) b, 'z'});
            boolean goesOn = isLetter || b >= '0' && b <= '9';
            boolean standsThere = goesOn || b == '(';
            due.same("read() of a NAME and byte " + b, y.read(), standsThere || isBlank || begins ? -12 : -11);
            due.same("place() of a NAME and byte " + b, y.place(), goesOn ? 7 : isBlank || b == '(' ? 6 : 5);
        }
    }

    /** "NAMES: a letter, then letters and digits, at most 10" */
    private static void namesHaveAtMostTen(Due due) {
        for (String name : new String[] {"a", "Z", "a9", "abcdefghi", "abcdefghij", "a123456789", "ABCDEFGHIJ", "zzzzzzzzzz"}) {
            PlainJava x = Due.of("void " + name + "() { }");
            due.same("size of " + name, x.token(1, 1), name.length());
            due.same("sort of " + name, x.token(1, 2), 1);
        }
        due.fault(1, "void @abcdefghijk() { }");
        due.fault(1, "void @a1234567890() { }");
        due.fault(1, "void m() { out(@" + Due.repeated("a", 500) + "); }");
        due.fault(1, "@abcdefghijk");
        // as long as can be: a word with more behind it is none
        due.fault(1, "void @continuexyz() { }");
        due.readable("void continuexy() { }", 1);
        due.fault(2, "void @9a() { }");
        due.fault(2, "void @9() { }");
    }

    private static void namesDifferInEveryByte(Due due) {
        String[] names = {"abcdefghij", "abcdefghik", "bbcdefghij", "abcdefghi", "Abcdefghij", "abcdeFghij", "abcde0ghij", "abcde9ghij", "a", "A", "aa", "aA", "a0", "a1",
            "Z", "z", "z0", "z9", "zZ", "Zz", "b", "B", "B0", "a00", "a000", "k", "K", "l", "L", "o0", "oO", "oo"};
        StringBuilder told = new StringBuilder("void m() { ");
        for (int i = 0; i < names.length; i++) {
            told.append("int ").append(names[i]).append(" = ").append(i).append("; ");
        }
        for (int i = 0; i < names.length; i++) {
            String text = told + "out(" + names[i] + "); }";
            PlainJava x = Due.of(text);
            due.same("judge() of " + text, x.judge(), 0);
            due.same("means of " + names[i], x.means(Due.tokenAt(text, "out(", 0) + 2), i);
            x.run(0, 100);
            due.same("value of " + names[i], x.ran(10), i);
        }
        for (String name : names) {
            due.error(2, "void m() { int " + name + "; int @" + name + "; }");
        }
    }

    private static void namesDifferByTwo(Due due) {
        String all = "0123456789ABCDEFGHIJKLMNOPQRSTUVWXYZabcdefghijklmnopqrstuvwxyz";
        for (int i = 0; i < all.length(); i++) {
            for (int k = i + 1; k < all.length(); k++) {
                // in the last place, in the first one (a letter), in the midst of ten
                notTheSame(due, "a" + all.charAt(i), "a" + all.charAt(k));
                notTheSame(due, "abcde" + all.charAt(i) + "0zZ9", "abcde" + all.charAt(k) + "0zZ9");
                if (i >= 10) {
                    notTheSame(due, "" + all.charAt(i), "" + all.charAt(k));
                    notTheSame(due, all.charAt(i) + "a", all.charAt(k) + "a");
                    notTheSame(due, all.charAt(i) + "A", all.charAt(k) + "A");
                    notTheSame(due, all.charAt(i) + "0", all.charAt(k) + "0");
                }
            }
        }
    }

    private static void notTheSame(Due due, String one, String other) {
        PlainJava x = Due.of("void m(int " + one + ", int " + other + ") { }");
        due.same("judge() of " + one + " and " + other, x.judge(), 0);
    }

    /** "WORDS are NAMES that are none" */
    private static void wordsAreNoNames(Due due) {
        String[] words = {"boolean", "byte", "char", "int", "long", "void", "if", "else", "while", "do", "for", "switch", "case", "default", "break", "continue",
            "return", "throw", "try", "catch", "finally", "final", "true", "false"};
        for (String word : words) {
            due.fault(2, "void @" + word + "() { }");
            due.readable("void " + word + "x() { }", 1);
            due.readable("void x" + word + "() { }", 1);
            due.readable("void " + word.substring(0, 1).toUpperCase() + word.substring(1) + "() { }", 1);
            String shorter = word.substring(0, word.length() - 1);
            if (!java.util.Arrays.asList(words).contains(shorter)) {
                due.readable("void " + shorter + "() { }", 1);
            }
        }
        // those of Java that are none here
        for (String name : new String[] {"short", "float", "double", "class", "static", "null", "new", "this", "goto", "String", "out", "in", "L"}) {
            due.readable("void " + name + "(int " + name + ") { }", 1);
        }
        String text = "boolean m(final byte b) { char c = 1; long d; int e; if (true) ; else ; while (false) ; do ; while (a); for (; ; ) ; switch (1) { case 1: default: } "
            + "break; continue; return; throw 1; try { } catch (f) { } finally { } }";
        PlainJava x = Due.of(text);
        int i = 0;
        for (int[] token : Due.tokens(text)) {
            String t = text.substring(token[0], token[1]);
            int sort = java.util.Arrays.asList(words).contains(t) ? 4 : Character.isLetter(t.charAt(0)) ? 1 : Character.isDigit(t.charAt(0)) ? 2 : 5;
            due.same("sort of " + t, x.token(i, 2), sort);
            i++;
        }
    }

    /** "NUMBERS: 1 to 19 digits, perhaps L behind them." */
    private static void numbersHaveUpToNineteen(Due due) {
        for (String number : new String[] {"0", "9", "0L", "9L", "00", "123456789012345678", "123456789012345678L", "9999999999999999999", "9999999999999999999L",
            "0000000000000000000", "0000000000000000000L"}) {
            PlainJava x = Due.of("void m() { x = " + number + "; }");
            due.same("size of " + number, x.token(7, 1), number.length());
            due.same("sort of " + number, x.token(7, 2), 2);
        }
        due.fault(1, "void m() { x = @00000000000000000000; }");
        due.fault(1, "void m() { x = @00000000000000000000L; }");
        due.fault(1, "void m() { x = @12345678901234567890; }");
        due.fault(1, "void m() { x = @12345678901234567890");
        due.fault(1, "@12345678901234567890");
        due.fault(2, "void m() { x = 1@l; }");
        due.fault(2, "void m() { x = 1 @L; }");
        due.fault(2, "void m() { x = 1L@L; }");
        due.fault(2, "void m() { x = 1L@2; }");
        due.fault(2, "void m() { x = 1@a; }");
        due.fault(2, "void m() { x = 0@x1; }");
        due.fault(2, "void m() { x = 1234567890123456789L@0; }");
        due.fault(2, "void m() { x = 1234567890123456789@x; }");
    }

    /** "CHARACTERS: ' and one byte 32 .. 126, but ' and \, and '." "a CHARACTER not whole (at its first byte)" */
    private static void charactersAreWhole(Due due) {
        for (int b = 0; b < 256; b++) {
            String character = "'" + (char) b + "'";
            if (b >= 32 && b <= 126 && b != '\'' && b != '\\') {
                PlainJava x = Due.of("int m() { return " + character + "; }");
                due.same("size of '" + b + "'", x.token(6, 1), 3);
                due.same("sort of '" + b + "'", x.token(6, 2), 3);
                due.same("TYPE of '" + b + "'", x.type(6, 6), 2);
                due.same("value of '" + b + "'", x.constant(6, 6), b);
            } else {
                due.fault(1, "int m() { return @" + character + "; }");
            }
        }
        due.fault(1, "int m() { return @'a; }");
        due.fault(1, "int m() { return @'ab'; }");
        due.fault(1, "int m() { return @''; }");
        due.fault(1, "int m() { return @'\\n'; }");
        due.fault(1, "int m() { return @'");
        due.fault(1, "int m() { return @'a");
        due.fault(2, "int m() { return 'a'");
        due.fault(2, "int m() { return 'a'@'b'; }");
        due.fault(1, "int m() { return 'a'@'; }");
    }

    /** "BLANKS (9, 10, 13, 32) and REMARKS (from // up to the next 10, or the end) between where needed" */
    private static void blanksAndRemarks(Due due) {
        due.readable("void m(){x=1;}", 1);
        due.readable("\tvoid\tm\t(\t)\t{\t}\t", 1);
        due.readable("\nvoid\nm\n(\n)\n{\n}\n", 1);
        due.readable("\rvoid\rm\r(\r)\r{\r}\r", 1);
        due.readable("void//\nm//void\n()//#'\u0000\u00ff\\\n{}", 1);
        due.readable("//", 0);
        due.readable("///", 0);
        due.readable("// void m(", 0);
        due.readable("//\n", 0);
        due.readable("//\n//\n\n//x", 0);
        // a 13 does not end it, a 10 does
        due.readable("// \r void m(", 0);
        due.fault(2, "// \n void m(");
        due.fault(2, "// \r\n void m(");
        due.readable("// // \n void m() { }", 1);
        due.fault(2, "// \n// x\n@/ /");
        due.fault(2, "@/");
        due.fault(2, "@/ / x");
        due.fault(2, "@/* x */");
        due.fault(2, "void m() { x = 1 / @/ 2; }");
        due.fault(2, "void m() { x = 1 /// 2;\n @2; }");
        due.readable("void m() { x = '/'//'\n; }", 1);
        due.readable("void m() { x = 1//;\n; }", 1);
        due.fault(2, "void m() { x = 1 @2; }");
        due.fault(2, "@voidm() { }");
        due.fault(1, "void m() { x @\u000b= 1; }");
        due.fault(1, "void m() { x @\u000c= 1; }");
        due.fault(1, "void m() { x @\u00a0= 1; }");
    }

    /** "TOKENS, as long as can be": each SIGN with no BLANKS around it is one token. */
    private static void signsAreAsLongAsCanBe(Due due) {
        String[] between = {"=", "+=", "-=", "*=", "/=", "%=", "&=", "|=", "^=", "<<=", ">>=", ">>>=", "||", "&&", "|", "^", "&", "==", "!=", "<", "<=", ">", ">=", "<<",
            ">>", ">>>", "+", "-", "*", "/", "%"};
        for (String sign : between) {
            PlainJava x = Due.of("void m(){a" + sign + "b;}");
            due.same("tokens of a" + sign + "b", x.told(0), 10);
            due.same("place of " + sign, x.token(6, 0), 10);
            due.same("size of " + sign, x.token(6, 1), sign.length());
            due.same("sort of " + sign, x.token(6, 2), 5);
            due.same("place behind " + sign, x.token(7, 0), 10 + sign.length());
        }
        for (String sign : new String[] {"+", "-", "!", "~", "++", "--"}) {
            PlainJava x = Due.of("void m(){" + sign + "a;}");
            due.same("size of " + sign, x.token(5, 1), sign.length());
            due.same("sort of " + sign, x.token(5, 2), 5);
        }
        PlainJava x = Due.of("void m(){f(a,b);l:a?b:c;}");
        int[] signs = {2, 3, 4, 6, 8, 10, 11, 13, 15, 17, 19, 20};
        for (int i : signs) {
            due.same("size of token " + i, x.token(i, 1), 1);
            due.same("sort of token " + i, x.token(i, 2), 5);
        }
    }

    private static void signsAreCutOneByOne(Due due) {
        due.readable("void m(){a+++b;}", 1);
        due.fault(2, "void m(){a++@++b;}");
        due.fault(2, "void m(){a++@b;}");
        due.fault(2, "void m(){a--@b;}");
        due.readable("void m(){a---b;}", 1);
        due.readable("void m(){a- --b;a-- -b;a+ ++b;a-+-b;a=-b;a=+b;a=++b;a=!b;a=~b;a==-b;a<-b;a&&!b;a!=!b;}", 1);
        due.fault(2, "void m(){a>>>@>b;}");
        due.fault(2, "void m(){a>>>@>=b;}");
        due.fault(2, "void m(){a>> @>b;}");
        due.fault(2, "void m(){a<<@<b;}");
        due.fault(2, "void m(){a<<@<=b;}");
        due.fault(2, "void m(){a&&@&b;}");
        due.fault(2, "void m(){a&&@=b;}");
        due.fault(2, "void m(){a||@|b;}");
        due.fault(2, "void m(){a||@=b;}");
        due.fault(2, "void m(){a==@=b;}");
        due.fault(2, "void m(){a!=@=b;}");
        due.fault(2, "void m(){a= @=b;}");
        due.fault(2, "void m(){a<=@=b;}");
        due.fault(2, "void m(){a@~=b;}");
        due.fault(2, "void m(){a+ @=b;}");
        due.fault(2, "void m(){--@1;}");
        due.readable("void m(){- -1;!!a;~~a;-~+1;}", 1);
    }

    private static void signsThatAreNoOperators(Due due) {
        for (String sign : new String[] {"(", ")", "{", "}", ",", ":", "=", "+=", "-=", "*=", "/=", "%=", "&=", "|=", "^=", "<<=", ">>=", ">>>=", "!", "~", "++", "--"}) {
            due.fault(2, "void m() { x = 1 @" + sign + " 2; }");
            due.fault(2, "void m() { return (a) @" + sign + " b; }");
            due.fault(2, "void m() { int a = f(1) @" + sign + " b; }");
        }
        for (String sign : new String[] {")", "}", ",", ":", "?", ";", "=", "+=", "||", "&&", "|", "^", "&", "==", "!=", "<", "<=", ">", ">=", "<<", ">>", ">>>", "*", "/", "%", "{"}) {
            due.fault(2, "void m() { x = @" + sign + " 2; }");
            due.fault(2, "void m() { x = 1 + @" + sign + " 2; }");
            due.fault(2, "void m() { x = - @" + sign + " 2; }");
            due.fault(2, "void m() { f(1, @" + sign + " 2); }");
        }
    }

    // ---- strengths

    private static final String[][] ROWS = {{"||"}, {"&&"}, {"|"}, {"^"}, {"&"}, {"==", "!="}, {"<", "<=", ">", ">="}, {"<<", ">>", ">>>"}, {"+", "-"}, {"*", "/", "%"}};

    /** The operands' letters: b a boolean, i an int; null: these two don't go together. */
    private static String[] operands(int weak, int strong) {
        if (weak >= 6 || weak == 5 && strong >= 7 || weak >= 2 && strong >= 7) {
            return strong == 6 ? null : new String[] {"i", "i"};
        }
        if (strong >= 7) {
            return null;
        }
        return new String[] {"b", strong == 6 ? "i" : "b"};
    }

    /** "operands with operators between them, the weakest first, of one strength from the left" */
    private static void strengths(Due due) {
        for (int weak = 0; weak < ROWS.length; weak++) {
            for (int strong = weak; strong < ROWS.length; strong++) {
                String[] o = operands(weak, strong);
                if (o == null) {
                    continue;
                }
                for (String w : ROWS[weak]) {
                    for (String s : ROWS[strong]) {
                        grouped(due, o[1] + " " + s + " " + o[1] + " " + w + " " + o[0], true);
                        grouped(due, o[0] + " " + w + " " + o[1] + " " + s + " " + o[1], weak == strong);
                    }
                }
            }
        }
        // a boolean is no number: the left one tells it at its first token
        for (String one : ROWS[6]) {
            for (String other : ROWS[6]) {
                due.error(5, "void m(boolean b, int i) { b = @i " + one + " i " + other + " i; }");
            }
        }
    }

    private static void grouped(Due due, String exp, boolean fromTheLeft) {
        String text = "void m(boolean b, int i) { f(" + exp + "); } void f(boolean b) { } void f(int i) { }";
        PlainJava x = Due.of(text);
        int from = Due.tokenAt(text, "f(", 0) + 2;
        due.same("judge() of " + exp, x.judge(), 0);
        due.same("the left two of " + exp, x.type(from, from + 2) >= 0 ? 1 : 0, fromTheLeft ? 1 : 0);
        due.same("the right two of " + exp, x.type(from + 2, from + 4) >= 0 ? 1 : 0, fromTheLeft ? 0 : 1);
        due.same("all of " + exp, x.type(from, from + 4) >= 0 ? 1 : 0, 1);
    }

    // ---- FAULTS

    /** "2 a token that can't stand there (the end: the text's length)" */
    private static void theEndIsTheTextsLength(Due due) {
        due.fault(2, "void");
        due.fault(2, "void ");
        due.fault(2, "void      \t\r\n");
        due.fault(2, "void // a remark");
        due.fault(2, "void m() {");
        due.fault(2, "void m() { x = ");
        due.fault(2, "void m() { f(");
        due.fault(2, "void m() { f(1");
        due.fault(2, "void m() { f(1,");
        due.fault(2, "void m() { if (a");
        due.fault(2, "void m() { switch (a) {");
        due.fault(2, "void m() { try { } catch (e) {");
        due.fault(2, "void m() { a ?");
        due.fault(2, "void m() { a ? b :");
        due.fault(2, "void m() { -");
        due.fault(2, "void m() { ++");
        due.fault(2, "void m() { (int)");
        due.fault(2, "void m() { return");
        due.fault(2, "void m() { a +");
        due.fault(2, "@1");
        due.fault(2, "void m() { }@;");
        PlainJava x = new PlainJava();
        Due.feed(x, "int" + Due.repeated(" ", 2497));
        due.same("read() of 2500 bytes", x.read(), -12);
        due.same("place()", x.place(), 2500);
        Due.feed(x, Due.repeated(" ", 2499) + "#");
        due.same("read() of # behind 2499", x.read(), -11);
        due.same("place()", x.place(), 2499);
    }

    /** "FAULTS, the first one that reading meets, of one token the least" */
    private static void whatGoesAheadAtOneToken(Due due) {
        // the first one: a later one of a lesser number tells nothing
        due.fault(2, "void m(@; #");
        due.fault(2, "void m() { out(1 @1 #); }");
        due.fault(3, "void m(int a, int b, int c, int d, int e, int f, int @g) { # }");
        due.fault(3, "void m(int a, int b, int c, int d, int e, int f, int @g +");
        due.fault(1, "void m() { @# ) }");
        // 1 and 2: what begins there as well as what is not whole can't stand there
        due.fault(1, "void @# { }");
        due.fault(1, "void @'a { }");
        due.fault(1, "void m @abcdefghijk { }");
        due.fault(1, "void m @12345678901234567890 { }");
        // 2 and 3: no NAME where the 11th method, 7th param, 61st variable has its own
        due.fault(2, methods(10) + "void @;");
        due.fault(2, methods(10) + "@x");
        due.fault(1, methods(10) + "void @#");
        due.fault(2, "void m(int a, int b, int c, int d, int e, int f, int @) { }");
        due.fault(2, "void m(int a, int b, int c, int d, int e, int f, @) { }");
        due.fault(1, "void m(int a, int b, int c, int d, int e, int f, int @#) { }");
        due.fault(2, variables(60) + "int @; }");
        due.fault(1, variables(60) + "int @# }");
        due.fault(1, variables(60) + "int @abcdefghijk; }");
        // 1 and 3, 2 and 3 of the 501st token
        due.fault(1, tokens(500) + "@#");
        due.fault(1, tokens(500) + "@abcdefghijk");
        due.fault(2, tokens(500) + "@)");
        due.fault(2, tokens(500) + "@,");
        due.fault(3, tokens(500) + "@;");
    }

    private static String methods(int n) {
        StringBuilder text = new StringBuilder();
        for (int i = 0; i < n; i++) {
            text.append("int m").append(i).append("() { return ").append(i).append("; } ");
        }
        return text.toString();
    }

    /** A method that is still open, with so many variables. */
    private static String variables(int n) {
        StringBuilder text = new StringBuilder("void n() { ");
        for (int i = 0; i < n; i++) {
            text.append("int v").append(i).append(i % 2 == 0 ? "; " : " = 1; ");
        }
        return text.toString();
    }

    /** So many tokens; the method is still open. */
    private static String tokens(int n) {
        return "void m() { " + Due.repeated(";", n - 5);
    }

    /** "3 one that is too much: the 501st" */
    private static void the501stToken(Due due) {
        for (int n = 498; n <= 500; n++) {
            String text = tokens(n - 1) + "}";
            PlainJava x = Due.of(text);
            due.same("told(0)", x.told(0), n);
            due.same("the last one's place", x.token(n - 1, 0), text.length() - 1);
            due.same("behind the last one", x.token(n, 0), PlainJava.BAD);
            due.same("judge()", x.judge(), 0);
            due.same("run", x.run(0, 20000), 0);
            due.same("STEPS", x.ran(1), 1 + n - 6);
            due.same("the latest S", x.ran(4), n - 2);
            due.same("ends of it", x.ends(n - 2), 1);
            due.same("ends of the }", x.ends(n - 1), PlainJava.BAD);
            due.same("ends behind it", x.ends(n), PlainJava.BAD);
        }
        due.fault(3, tokens(500) + "@}");
        due.fault(3, tokens(500) + "@} }");
        due.fault(3, tokens(500) + "@x = 1;");
        due.fault(3, tokens(500) + "@int a;");
        due.fault(3, tokens(500) + "@if");
        due.fault(3, tokens(500) + "@a: ;");
        due.fault(3, tokens(499) + "} @int");
        due.fault(3, tokens(499) + "} @void m() { }");
        due.fault(2, tokens(499) + "} @m");
        due.readable(tokens(499) + "} // more # '", 1);
        due.readable(tokens(499) + "}" + Due.repeated(" ", 1900), 1);
        due.fault(2, tokens(500));
        due.fault(2, tokens(500) + "   // }");
        // the 500th stands, the 501st behind it is looked at
        due.fault(3, tokens(499) + "a@=1;}");
        due.fault(3, tokens(499) + "a@:;}");
        due.fault(3, tokens(499) + "a@(1);}");
        due.fault(3, tokens(499) + "a@++;}");
        due.fault(3, tokens(499) + "a@;}");
        due.fault(2, tokens(499) + "a @1;}");
        due.fault(3, tokens(498) + "a=@1;}");
        due.fault(3, tokens(499) + "-@1;}");
        due.fault(3, tokens(498) + "(int@)1;}");
        due.fault(3, tokens(498) + "++a@;}");
        due.fault(3, tokens(499) + "++@a;}");
        due.fault(3, tokens(498) + "a?@b:c;}");
        due.fault(3, tokens(498) + "a+@b;}");
        // nothing but NAMES and NUMBERS with signs between them: one exp
        PlainJava x = Due.of("int m() { return -1" + Due.repeated("+1", 245) + "; }");
        due.same("told(0)", x.told(0), 500);
        due.same("judge()", x.judge(), 0);
        due.same("constant", x.constant(6, 497), 244);
        due.fault(3, "int m() { return 1" + Due.repeated("+1", 246) + "; @}");
    }

    /** "an 11th method" */
    private static void theEleventhMethod(Due due) {
        for (int n = 9; n <= 10; n++) {
            PlainJava x = Due.of(methods(n));
            due.same("told(1)", x.told(1), n);
            due.same("the last one's NAME", x.method(n - 1, 0), 9 * (n - 1) + 1);
            due.same("the last one's TYPE", x.method(n - 1, 1), 3);
            due.same("behind the last one", x.method(n, 0), PlainJava.BAD);
            due.same("run of the last one", x.run(n - 1, 2), 1);
            due.same("ran(0)", x.ran(0), n - 1);
            due.same("run behind it", x.run(n, 2), PlainJava.BAD);
        }
        due.fault(3, methods(10) + "void @m() { }");
        due.fault(3, methods(10) + "int @m0() { }");
        due.fault(3, methods(10) + "int @out");
        due.fault(2, methods(10) + "int");
        due.fault(2, methods(10) + "@;");
        String text = "int m0() { return m9(); } " + methods(10).substring(methods(1).length());
        PlainJava x = Due.of(text);
        due.same("means of a call of the 10th", x.means(6), 109);
        due.same("run", x.run(0, 9), 1);
        due.same("ran(0)", x.ran(0), 9);
    }

    /** "a 7th param" */
    private static void theSeventhParam(Due due) {
        String[] types = {"boolean", "byte", "char", "int", "long", "int"};
        StringBuilder params = new StringBuilder();
        for (int n = 0; n <= 6; n++) {
            PlainJava x = Due.of("void m(" + params + ") { }");
            due.same("params", x.method(0, 2), n);
            for (int i = 0; i < n; i++) {
                due.same("TYPE of param " + i, x.method(0, 10 + i), i == 5 ? 3 : i);
            }
            for (int what : new int[] {10 + n, 11 + n, 16, 17, 9, 3, -1}) {
                due.same("method(0, " + what + ")", x.method(0, what), PlainJava.BAD);
            }
            due.same("variables", x.told(2), n);
            if (n < 6) {
                params.append(n == 0 ? "" : ", ").append(types[n]).append(" p").append(n);
            }
        }
        due.fault(3, "void m(" + params + ", int @g) { }");
        due.fault(3, "void m(" + params + ", final long @g, int h) { }");
        due.fault(3, "void m(" + params + ", int @p0) { }");
        due.fault(2, "void m(" + params + ", @g) { }");
        due.fault(2, "void m(" + params + ", final @g) { }");
        // of each method by itself
        due.readable("void m(" + params + ") { } void n(" + params + ") { } void o(" + params + ") { }", 3);
        // a call may have more arguments: it means no method then
        due.error(6, "void m(" + params + ") { @m(true, (byte) 1, 'c', 1, 1L, 1, 1); }");
        due.fine("void m(" + params + ") { m(true, (byte) 1, 'c', 1, 1L, 1); }");
    }

    /** "the 61st variable of a program (params and catch's NAMES count; at their NAMES)" */
    private static void the61stVariable(Due due) {
        for (int n = 59; n <= 60; n++) {
            PlainJava x = Due.of(variables(n) + "out(v" + (n - (n % 2 == 0 ? 1 : 2)) + "); }");
            due.same("judge()", x.judge(), 0);
            due.same("told(2)", x.told(2), n);
            due.same("the last one's TYPE", x.variable(n - 1, 1), 3);
            due.same("the last one's method", x.variable(n - 1, 3), 0);
            due.same("behind the last one", x.variable(n, 1), PlainJava.BAD);
            int last = Due.tokenAt(variables(n) + "out(", "out(", 0);
            due.same("assigned: the last one", x.assigned(last, n - 1), n % 2 == 0 ? 1 : 0);
            due.same("assigned: the one before", x.assigned(last, n - 2), n % 2 == 0 ? 0 : 1);
            due.same("assigned: none", x.assigned(last, n), PlainJava.BAD);
            due.same("assigned: 64 more", x.assigned(last, n + 63), PlainJava.BAD);
            due.same("assigned: -1", x.assigned(last, -1), PlainJava.BAD);
            due.same("run", x.run(0, 200), 0);
            due.same("ran(10)", x.ran(10), 1);
        }
        due.fault(3, variables(60) + "int @x; }");
        due.fault(3, variables(60) + "final byte @x = 1; }");
        due.fault(3, variables(60) + "int @v0; }");
        due.fault(3, variables(60) + "} void m(int @a) { }");
        due.fault(3, variables(60) + "} void m(final int @a) { }");
        due.fault(3, variables(60) + "try { } catch (@e) { } }");
        due.fault(3, variables(60) + "for (int @i = 0; ; ) ; }");
        due.fault(3, variables(60) + "switch (1) { case 1: int @i; } }");
        due.fault(3, variables(60) + "{ int @i; } }");
        due.readable(variables(60) + "} void m() { out(1); l: ; }", 2);
        // params and catch's NAMES are among the 60
        String some = "void m(int a, int b) { try { } catch (e) { } for (int i = 0; ; ) { int j; } } ";
        due.readable(some + variables(55) + "}", 2);
        due.fault(3, some + variables(55) + "int @x; }");
        due.readable(variables(59) + "} void m(int a) { }", 2);
        due.fault(3, variables(59) + "} void m(int a, int @b) { }");
        due.readable(variables(59) + "try { } catch (e) { } }", 1);
        due.fault(3, variables(59) + "try { int e; } catch (@e) { } }");
    }

    // ---- within more than 20 others

    /** In so many blocks, that of the method among them. */
    private static String in(int blocks, String row) {
        return "void m() " + Due.repeated("{ ", blocks) + row + Due.repeated(" }", blocks);
    }

    /** A row whose mark is one deeper than its beginning: in 19 blocks all is well, in 20 the mark is too much. */
    private static void oneDeeper(Due due, String marked) {
        due.readable(in(19, marked.replace("@", "")), 1);
        due.fault(3, in(20, marked));
    }

    /** A row whose mark is two deeper. */
    private static void twoDeeper(Due due, String marked) {
        due.readable(in(18, marked.replace("@", "")), 1);
        due.fault(3, in(19, marked));
    }

    /** "what stands within more than 20 others (blocks, S's of if, else, while, do, for, a NAME:, what is between the { } of switch" */
    private static void withinMoreThan20(Due due) {
        due.readable(in(20, ";"), 1);
        due.readable(in(20, ""), 1);
        due.fault(3, in(20, "{ @}"));
        due.fault(3, in(20, "{ @; }"));
        due.fault(3, in(21, "@;"));
        due.readable(in(20, "int a; a++; return; break; continue l; throw 1; int b = a;"), 1);
        oneDeeper(due, "{ @; }");
        oneDeeper(due, "{ @int a; }");
        oneDeeper(due, "{ @final int a = 1; }");
        oneDeeper(due, "if (a) @;");
        oneDeeper(due, "if (a) @b++;");
        oneDeeper(due, "if (a) @; else ;");
        twoDeeper(due, "if (a) ; else { @; }");
        twoDeeper(due, "if (a) ; else if (b) @;");
        twoDeeper(due, "if (a) { @; } else ;");
        oneDeeper(due, "while (a) @;");
        oneDeeper(due, "do @; while (a);");
        oneDeeper(due, "for (; ; ) @;");
        oneDeeper(due, "for (int i = 0; i < 1; i++) @;");
        oneDeeper(due, "l: @;");
        twoDeeper(due, "l: k: @;");
        twoDeeper(due, "l: while (a) @;");
        oneDeeper(due, "switch (a) { @}");
        oneDeeper(due, "switch (a) { @case 1: }");
        oneDeeper(due, "switch (a) { @default: }");
        twoDeeper(due, "switch (a) { case 1: { @; } }");
        twoDeeper(due, "switch (a) { default: int b; if (c) @; }");
        oneDeeper(due, "try { @} catch (e) { }");
        oneDeeper(due, "try { @; } finally { }");
        twoDeeper(due, "try { } catch (e) { { @} }");
        twoDeeper(due, "try { } catch (e) { l: @; }");
        twoDeeper(due, "try { } catch (e) { } finally { { @} }");
        twoDeeper(due, "try { } finally { while (a) @; }");
        // each S of 20 and of 21, one within the other
        String[][] pairs = {{"{ ", "; }"}, {"if (a) ", ";"}, {"if (a) ; else ", ";"}, {"while (a) ", ";"}, {"do ", "; while (a);"}, {"for (; ; ) ", ";"}, {"l: ", ";"},
            {"switch (a) { case 1: ", "; }"}, {"try { ", "; } finally { }"}, {"try { } catch (e) { ", "; }"}, {"try { } finally { ", "; }"}};
        for (String[] pair : pairs) {
            String behind = pair[1].substring(1);
            due.readable("void m() { " + Due.repeated(pair[0], 19) + ";" + Due.repeated(behind, 19) + " }", 1);
            PlainJava x = new PlainJava();
            Due.feed(x, "void m() { " + Due.repeated(pair[0], 20) + ";" + Due.repeated(behind, 20) + " }");
            due.same("read() of 20 " + pair[0] + "in a method's block", x.read(), -13);
        }
        // behind what was as deep there is room again
        due.readable(in(19, "{ } { ; } if (a) ; else ; { }"), 1);
        due.readable("void m() { " + Due.repeated(in(19, ";").substring(9), 3) + " } void n() { " + in(19, ";").substring(9) + " }", 2);
    }

    /** "the ( ) of exps and calls, behind + - ! ~ and casts, behind = and the like of assignments, behind ? and : of choices" */
    private static void withinMoreThan20OfAnExp(Due due) {
        oneDeeper(due, "(@1);");
        oneDeeper(due, "f(@1);");
        oneDeeper(due, "f(@1, 2);");
        twoDeeper(due, "f(1, (@2));");
        twoDeeper(due, "f(1, 2, -@3);");
        for (String sign : new String[] {"+", "-", "!", "~"}) {
            oneDeeper(due, sign + "@a;");
            twoDeeper(due, sign + sign.replace("+", " +").replace("-", " -") + "@a;");
            oneDeeper(due, "b + " + sign + "@a;");
        }
        for (String type : new String[] {"boolean", "byte", "char", "int", "long"}) {
            oneDeeper(due, "(" + type + ") @a;");
        }
        twoDeeper(due, "(int) (long) @a;");
        twoDeeper(due, "(int) -@1;");
        for (String sign : new String[] {"=", "+=", "-=", "*=", "/=", "%=", "&=", "|=", "^=", "<<=", ">>=", ">>>="}) {
            oneDeeper(due, "a " + sign + " @1;");
            twoDeeper(due, "a " + sign + " b " + sign + " @1;");
        }
        oneDeeper(due, "a ? @b : c;");
        twoDeeper(due, "a ? b = @1 : c;");
        twoDeeper(due, "a ? (@b) : c;");
        twoDeeper(due, "a ? b : (@c);");
        twoDeeper(due, "a ? b : c ? @d : e;");
        twoDeeper(due, "a ? b ? @c : d : e;");
        twoDeeper(due, "a ? b : f(@1);");
        twoDeeper(due, "(a ? @b : c);");
        twoDeeper(due, "a = b ? @c : d;");
        twoDeeper(due, "f(-@1);");
        twoDeeper(due, "f(a = @1);");
    }

    /** "what stands behind the = of a variable is within no more", nor what no kind is told of */
    private static void withinNoMore(Due due) {
        due.readable(in(20, "int a = 1;"), 1);
        due.readable(in(20, "final int a = 1 + 2;"), 1);
        oneDeeper(due, "int a = (@1);");
        oneDeeper(due, "int a = b = @1;");
        oneDeeper(due, "int a = -@1;");
        due.readable(in(19, "for (int i = (1); ; ) ;"), 1);
        due.fault(3, in(20, "for (int i = (@1); ; ) ;"));
        due.fault(3, in(20, "for (int i = 1; (@a); ) ;"));
        due.fault(3, in(20, "for (i = @1; ; ) ;"));
        due.fault(3, in(20, "for (; ; i++, f(@1)) ;"));
        // the ( ) of if and the like are those of no exp
        oneDeeper(due, "if ((@a)) ;");
        oneDeeper(due, "while ((@a)) ;");
        oneDeeper(due, "switch ((@a)) { }");
        twoDeeper(due, "switch (a) { case (@1): }");
        due.readable(in(20, "return 1;"), 1);
        oneDeeper(due, "return (@1);");
        oneDeeper(due, "throw (@1);");
        due.fault(3, in(20, "do @; while ((a));"));
        twoDeeper(due, "do f(@a); while (a);");
        due.fault(3, in(19, "do ; while (((@a)));"));
        due.readable(in(18, "do ; while (((a)));"), 1);
        // operators between operands, ++ and -- are none, however many there are
        due.readable(in(20, "a + b * c - d << e < g == h & i ^ j | k && l || n;"), 1);
        due.readable(in(20, "++a; a++; --a; a--; a;"), 1);
        due.readable(in(20, "a" + Due.repeated(" + a", 150) + ";"), 1);
        // params and a method's ( ) as well
        due.readable("void m(int a, final int b) " + Due.repeated("{ ", 20) + "f; " + Due.repeated("} ", 20), 1);
    }

    /** "at its first token, whatever it is, but 1 goes ahead" */
    private static void withinMoreThan20WhateverItIs(Due due) {
        String[] any = {"}", ")", "(", ";", ",", ":", "?", "=", "+=", "||", "*", "+", "!", "++", "else", "case", "default", "catch", "finally", "void", "int", "final", "true",
            "if", "x", "1", "'a'", "{"};
        String[] ahead = {"{", "if (a)", "while (a)", "do", "for (; ; )", "l:", "switch (a) {", "try {", "(", "f(", "-", "!", "~", "+", "(int)", "a =", "a >>>=", "a ?"};
        for (String first : ahead) {
            for (String token : any) {
                // behind an open ( a type is that of a cast, which is one deeper still; of f() see ReadingsTest
                if (!(first.equals("(") && token.equals("int") || first.equals("f(") && token.equals(")"))) {
                    due.fault(3, "void m() " + Due.repeated("{ ", 20) + first + " @" + token + " ;");
                }
            }
            due.fault(1, "void m() " + Due.repeated("{ ", 20) + first + " @#");
            due.fault(1, "void m() " + Due.repeated("{ ", 20) + first + " @'ab'");
            due.fault(1, "void m() " + Due.repeated("{ ", 20) + first + " @abcdefghijk");
            due.fault(1, "void m() " + Due.repeated("{ ", 20) + first + " @12345678901234567890");
        }
        due.fault(3, "void m() " + Due.repeated("{ ", 19) + "a ? b : -@) ;");
        due.fault(1, "void m() " + Due.repeated("{ ", 19) + "a ? b : -@# ;");
    }

    // ---- place

    /** "The place of the FAULT, ERROR that the latest read() or judge() told; NO when it told none, and before." */
    private static void placeIsOfTheLatest(Due due) {
        PlainJava x = new PlainJava();
        due.same("before", x.place(), PlainJava.NO);
        x.feed(WRONG, WRONG, WRONG, WRONG, WRONG);
        due.same("behind feed", x.place(), PlainJava.NO);
        due.same("read()", x.read(), -11);
        due.same("at the first byte", x.place(), 0);
        due.same("again", x.place(), 0);
        due.same("judge()", x.judge(), 0);
        due.same("behind a judge() that told none", x.place(), PlainJava.NO);
        Due.feed(x, "void m() { x; }");
        due.same("read()", x.read(), 1);
        due.same("behind a read() that told none", x.place(), PlainJava.NO);
        due.same("judge()", x.judge(), 3);
        due.same("of the ERROR", x.place(), 11);
        Due.feed(x, " void");
        due.same("feed leaves it", x.place(), 11);
        due.same("read()", x.read(), -12);
        due.same("of the FAULT", x.place(), 5);
        due.same("run", x.run(0, 1), PlainJava.NO);
        due.same("means", x.means(1), PlainJava.NO);
        due.same("those told none", x.place(), 5);
        due.same("judge()", x.judge(), 3);
        due.same("of the ERROR again", x.place(), 11);
        due.same("read() of nothing", x.read(), 0);
        due.same("none", x.place(), PlainJava.NO);
        due.same("judge() of nothing", x.judge(), 0);
        due.same("none", x.place(), PlainJava.NO);
    }
}
