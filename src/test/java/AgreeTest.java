import java.util.ArrayList;
import java.util.List;
import java.util.Random;

/**
 * Promises 6, 14 and 15 agree on programs of any shape: an S can end normally if, and only if, another S behind it can be
 * REACHED; a variable is SURELY assigned ahead of an S if, and only if, its value can be taken there.
 */
final class AgreeTest {
    private final Random random;
    private final StringBuilder text = new StringBuilder("int m(boolean p, int q, boolean w) {");
    private final List<String> labels = new ArrayList<>();
    /** Where the S's and tolds that stand in a row of a block or switch begin and end. */
    private final List<int[]> inRows = new ArrayList<>();
    private int variables;
    private int labelCount;
    private int loops;
    private int switches;

    private AgreeTest(long seed) {
        random = new Random(seed);
    }

    public static void main(String[] args) {
        Due due = new Due();
        int fine = 0;
        for (int seed = 0; seed < 1500; seed++) {
            AgreeTest t = new AgreeTest(seed * 7919L);
            t.row(new ArrayList<>(), 3, 4);
            t.text.append(" return q; }");
            // what is put in has up to five tokens
            if (Due.tokens(t.text.toString()).size() <= 495 && Due.of(t.text.toString()).judge() == 0) {
                t.agree(due);
                fine++;
            }
        }
        due.same("enough programs without an ERROR, " + fine, fine > 300 ? 1 : 0, 1);
        due.end();
    }

    private void agree(Due due) {
        String all = text.toString();
        for (int[] s : inRows) {
            PlainJava x = Due.of(all);
            int token = Due.tokens(all.substring(0, s[0])).size();
            PlainJava behind = Due.of(all.substring(0, s[1]) + ";" + all.substring(s[1]));
            boolean isDead = behind.judge() == 13 && behind.place() == s[1];
            due.same("ends() of " + all.substring(s[0], s[1]) + " in " + all, x.ends(token), isDead ? 0 : 1);
            for (int k = 0; k < x.told(2); k++) {
                if (x.variable(k, 1) == 3) {
                    int name = x.token(x.variable(k, 0), 0);
                    String put = "out(" + all.substring(name, name + x.token(x.variable(k, 0), 1)) + ");";
                    PlainJava ahead = Due.of(all.substring(0, s[0]) + put + all.substring(s[0]));
                    int error = ahead.judge();
                    boolean isThere = error == 0 || ahead.place() == s[0] + 4;
                    int want = !isThere ? -9 : error == 3 ? PlainJava.BAD : error == 15 ? 0 : error == 0 ? 1 : -9;
                    due.same("assigned() of " + put + " ahead of " + all.substring(s[0], s[1]) + " in " + all, x.assigned(token, k), want);
                }
            }
        }
    }

    // ---- what a program is made of

    private int any(int n) {
        return random.nextInt(n);
    }

    private void put(String piece) {
        text.append(piece);
    }

    private void row(List<String> known, int depth, int most) {
        List<String> inside = new ArrayList<>(known);
        for (int i = any(most) + 1; i > 0; i--) {
            rowPart(inside, depth);
        }
    }

    private void rowPart(List<String> known, int depth) {
        put(" ");
        int begin = text.length();
        if (any(4) == 0 && variables < 8) {
            told(known);
            put(";");
        } else {
            statement(known, depth);
        }
        inRows.add(new int[] {begin, text.length()});
    }

    private void told(List<String> known) {
        String name = "v" + variables++;
        put("int " + name);
        if (any(3) == 0) {
            put(" = ");
            number(known, 1);
        }
        known.add(name);
    }

    private String one(List<String> of) {
        return of.get(any(of.size()));
    }

    private void statement(List<String> known, int depth) {
        switch (any(depth > 0 ? 18 : 6)) {
            case 0: put("out(1);"); break;
            case 1: case 2:
                if (!known.isEmpty()) {
                    put(one(known) + " = ");
                    number(known, 1);
                }
                put(";");
                break;
            case 3: put(any(3) == 0 ? "return 1;" : any(2) == 0 ? "throw q;" : "w = p;"); break;
            case 4: put(loops + switches > 0 && any(2) == 0 ? "break;" : labels.isEmpty() ? ";" : "break " + one(labels) + ";"); break;
            case 5: put(loops > 0 && any(2) == 0 ? "continue;" : "out(2);"); break;
            case 6: block(known, depth - 1); break;
            case 7: case 8: branch(known, depth - 1); break;
            case 9: case 10: case 11: loop(known, depth - 1); break;
            case 12: case 13: choose(known, depth - 1); break;
            case 14: case 15: case 16: attempt(known, depth - 1); break;
            default:
                String label = "l" + labelCount++;
                labels.add(label);
                put(label + ": ");
                block(known, depth - 1);
                labels.remove(label);
                break;
        }
    }

    private void block(List<String> known, int depth) {
        put("{");
        row(known, depth, 3);
        put(" }");
    }

    private void branch(List<String> known, int depth) {
        put("if (");
        condition(known, 2);
        put(") ");
        block(known, depth);
        if (any(2) == 0) {
            put(" else ");
            block(known, depth);
        }
    }

    private void loop(List<String> known, int depth) {
        loops++;
        int kind = any(3);
        put(kind == 0 ? "while (" : kind == 1 ? "do " : "for (; ");
        if (kind == 1) {
            block(known, depth);
            put(" while (");
        }
        condition(known, 2);
        put(kind == 0 ? ") " : kind == 1 ? ");" : "; " + (known.isEmpty() ? "" : one(known) + " = 3") + ") ");
        if (kind != 1) {
            block(known, depth);
        }
        loops--;
    }

    private void choose(List<String> known, int depth) {
        switches++;
        put("switch (q) {");
        List<String> inside = new ArrayList<>(known);
        int at = any(4);
        for (int i = any(4); i > 0; i--) {
            put(i == at ? " default:" : " case " + i + ":");
            for (int k = any(3); k > 0; k--) {
                rowPart(inside, depth);
            }
        }
        put(" }");
        switches--;
    }

    private void attempt(List<String> known, int depth) {
        put("try ");
        block(known, depth);
        int kind = any(3);
        if (kind != 0) {
            String name = "e" + variables++;
            put(" catch (" + name + ") ");
            List<String> inside = new ArrayList<>(known);
            inside.add(name);
            block(inside, depth);
        }
        if (kind != 1) {
            put(" finally ");
            block(known, depth);
        }
    }

    private void condition(List<String> known, int depth) {
        switch (any(depth > 0 ? 9 : 4)) {
            case 0: put("true"); break;
            case 1: put("p"); break;
            case 2: put(any(3) == 0 ? "false" : "q > 1"); break;
            case 3:
                put("(");
                if (!known.isEmpty()) {
                    put(one(known) + " = ");
                }
                put("q) > 1");
                break;
            case 4: put("!"); inBrackets(known, depth - 1); break;
            case 5: inBrackets(known, depth - 1); put(" && "); inBrackets(known, depth - 1); break;
            case 6: inBrackets(known, depth - 1); put(" || "); inBrackets(known, depth - 1); break;
            case 7: inBrackets(known, depth - 1); put(" ? "); inBrackets(known, depth - 1); put(" : "); inBrackets(known, depth - 1); break;
            default: inBrackets(known, depth - 1); put(" ^ "); inBrackets(known, depth - 1); break;
        }
    }

    private void inBrackets(List<String> known, int depth) {
        put("(");
        condition(known, depth);
        put(")");
    }

    private void number(List<String> known, int depth) {
        switch (any(depth > 0 ? 5 : 2)) {
            case 0: put("q"); break;
            case 1: put("in()"); break;
            case 2: inBrackets(known, 1); put(" ? 1 : 2"); break;
            case 3:
                put("(");
                if (!known.isEmpty()) {
                    put(one(known) + " = ");
                }
                number(known, depth - 1);
                put(")");
                break;
            default: put(known.isEmpty() || any(3) > 0 ? "7" : one(known)); break;
        }
    }
}
