import java.util.ArrayList;
import java.util.List;
import java.util.Random;

/** Runs of calls, made up by a seeded source, on the program and on the oracle: all answers must agree. */
public final class AgainstOracleTest {
    private static final String[] NAMES = {"a", "b", "c", "f", "g", "x", "y", "loop", "-x", "a-longer_one"};
    private static final String[] TOKENS = {
        "(", ")", "'", "(", ")", "(", ")", "quote", "lambda", "if", "let", "letrec", "set!", "begin", "and", "or",
        "define", "car", "cons", "+", "-", "<", "read", "emit", "a", "b", "f", "x", "1", "-5", "0", "#t", "#f", "()",
        "((a 1))", "(a b)", "#", "1a", "-1a", "2147483648", "-2147483648", "toolongtoname", "A", "; no\n", "\t", "\r", ")"};

    private final Random random;
    private final StringBuilder text = new StringBuilder();
    private final List<String> around = new ArrayList<>();

    private AgainstOracleTest(long seed) {
        random = new Random(seed);
    }

    public static void main(String[] args) {
        int from = args.length == 2 ? Integer.parseInt(args[0]) : 0;
        int runs = args.length == 2 ? Integer.parseInt(args[1]) : 6000;
        for (int seed = from; seed < from + runs; seed++) {
            new AgainstOracleTest(seed).oneRun(seed);
        }
        Check.end("AgainstOracleTest");
    }

    // ---- texts

    private int pick(int below) {
        return random.nextInt(below);
    }

    private String anyName() {
        return NAMES[pick(NAMES.length)];
    }

    private void put(String token) {
        text.append(token);
        int r = pick(60);
        text.append(r == 0 ? "\n" : r == 1 ? "\t" : r == 2 ? ";x(\n" : " ");
    }

    private String program() {
        text.setLength(0);
        int way = pick(12);
        if (way == 0) {
            int n = pick(30);
            for (int i = 0; i < n; i++) {
                put(TOKENS[pick(TOKENS.length)]);
            }
            return cut(text.toString());
        }
        if (way == 1) {
            return pick(4) == 0 ? spoilt(crowded()) : crowded();
        }
        if (way < 9) {
            String typed = cut(new TypedTexts(random).text());
            return pick(12) == 0 ? spoilt(typed) : typed;
        }
        around.clear();
        int globals = 1 + pick(5);
        for (int i = 0; i < globals; i++) {
            around.add(NAMES[i]);
        }
        int rows = 1 + pick(6);
        for (int i = 0; i < globals; i++) {
            put("(");
            put("define");
            put(NAMES[i]);
            if (pick(3) == 0) {
                form(3);
            } else {
                lambda(4);
            }
            put(")");
        }
        for (int i = 0; i < rows; i++) {
            form(5);
        }
        String made = cut(text.toString());
        return way < 10 ? spoilt(made) : made;
    }

    /** Texts about the limits of nesting, FORMS, lambdas and defined NAMES. */
    private String crowded() {
        StringBuilder s = new StringBuilder();
        int n = pick(40);
        switch (pick(6)) {
            case 0:
                for (int i = 0; i < n; i++) {
                    s.append(pick(2) == 0 ? "(" : "'");
                }
                return s.append("a").append(Check.times(")", pick(32))).toString();
            case 1:
                for (int i = 0; i < 740 + pick(20); i++) {
                    s.append(pick(9) == 0 ? "'1 " : "1(1)");
                }
                return cut(s.toString());
            case 2:
                for (int i = 0; i < 112 + pick(12); i++) {
                    s.append(pick(30) == 0 ? "(define x 1)" : "(lambda(x)(car 1)x)");
                }
                return cut(s.toString());
            case 3:
                for (int i = 0; i < 92 + pick(20); i++) {
                    s.append("(define d").append(pick(40) == 0 ? 1 : i).append(pick(40) == 0 ? " d101" : " 1").append(")");
                }
                return cut(s.toString());
            case 4:
                return Check.times("(begin ", n) + "(define x x)" + Check.times(")", n);
            default:
                return Check.times("(lambda (a) ", n) + "(a b)" + Check.times(")", n) + " (define b '" + Check.times("'", n) + "1)";
        }
    }

    private String cut(String made) {
        return made.length() > 3000 ? made.substring(0, 3000) : made;
    }

    private String spoilt(String made) {
        StringBuilder s = new StringBuilder(made);
        for (int i = 1 + pick(3); i > 0 && s.length() > 0; i--) {
            int place = pick(s.length());
            int way = pick(5);
            if (way == 0) {
                s.deleteCharAt(place);
            } else if (way == 1) {
                s.insert(place, " " + TOKENS[pick(TOKENS.length)] + " ");
            } else if (way == 2) {
                s.setCharAt(place, "()' 1a#A;"  .charAt(pick(9)));
            } else if (way == 3) {
                s.setLength(place);
            } else {
                int end = Math.min(s.length(), place + pick(20));
                s.delete(place, end);
            }
        }
        return cut(s.toString());
    }

    private void forms(int depth) {
        int n = 1 + (pick(3) == 0 ? pick(3) : 0);
        for (int i = 0; i < n; i++) {
            form(depth);
        }
    }

    private void lambda(int depth) {
        int had = around.size();
        int n = pick(pick(4) == 0 ? 9 : 3);
        put("(");
        put("lambda");
        put("(");
        for (int i = 0; i < n; i++) {
            String name = NAMES[(i * 3 + n) % NAMES.length];
            put(name);
            around.add(name);
        }
        put(")");
        forms(depth - 1);
        put(")");
        cutAround(had);
    }

    private void cutAround(int had) {
        while (around.size() > had) {
            around.remove(around.size() - 1);
        }
    }

    private void let(int depth, boolean isRec) {
        int had = around.size();
        int n = pick(4);
        int shift = pick(NAMES.length);
        put("(");
        put(isRec ? "letrec" : "let");
        put("(");
        if (isRec) {
            for (int i = 0; i < n; i++) {
                around.add(NAMES[(i + shift) % NAMES.length]);
            }
        }
        for (int i = 0; i < n; i++) {
            put("(");
            put(NAMES[(i + shift) % NAMES.length]);
            if (isRec && pick(4) > 0) {
                lambda(depth - 2);
            } else {
                form(depth - 2);
            }
            put(")");
        }
        put(")");
        if (!isRec) {
            for (int i = 0; i < n; i++) {
                around.add(NAMES[(i + shift) % NAMES.length]);
            }
        }
        forms(depth - 1);
        put(")");
        cutAround(had);
    }

    private void plain() {
        switch (pick(9)) {
            case 0: put("#t"); break;
            case 1: put("#f"); break;
            case 2: put("'()"); break;
            case 3: put("'(1 (a . b) 'c)".replace(". ", "")); break;
            case 4: put("'" + anyName()); break;
            case 5: put(String.valueOf(pick(7) == 0 ? random.nextInt() : pick(5) - 2)); break;
            default:
                put(around.isEmpty() || pick(200) == 0 ? anyName() : around.get(around.size() - 1 - pick(Math.min(6, around.size()))));
                break;
        }
    }

    private void form(int depth) {
        if (depth <= 0) {
            plain();
            return;
        }
        int n;
        switch (pick(18)) {
            case 0: plain(); break;
            case 1: put("("); put("if"); form(depth - 1); form(depth - 1); form(depth - 1); put(")"); break;
            case 2: let(depth, false); break;
            case 3: let(depth, true); break;
            case 4:
                put("("); put("set!");
                put(around.isEmpty() ? anyName() : around.get(around.size() - 1 - pick(Math.min(6, around.size()))));
                form(depth - 1); put(")");
                break;
            case 5: put("("); put("begin"); forms(depth - 1); put(")"); break;
            case 6: put("("); put(pick(2) == 0 ? "and" : "or"); forms(depth - 1); put(")"); break;
            case 7: lambda(depth); break;
            case 8: case 9: case 10: {
                String[] two = {"+", "-", "*", "quotient", "remainder", "=", "<", "cons", "eq?"};
                put("("); put(two[pick(two.length)]); form(depth - 1); form(depth - 1); put(")");
                break;
            }
            case 11: {
                String[] one = {"car", "cdr", "pair?", "null?", "integer?", "procedure?", "not", "emit"};
                put("("); put(one[pick(one.length)]); form(depth - 1); put(")");
                break;
            }
            case 12: put("("); put("emit"); form(depth - 1); put(")"); break;
            case 13: put("("); put("read"); put(")"); break;
            case 14:
                put("("); put(pick(2) == 0 ? "set-car!" : "set-cdr!"); put("(cons 1 2)"); form(depth - 1); put(")");
                break;
            default:
                n = pick(pick(6) == 0 ? 9 : 3);
                put("(");
                if (around.isEmpty() || pick(4) == 0) {
                    lambda(depth - 1);
                } else {
                    put(around.get(pick(around.size())));
                }
                for (int i = 0; i < n; i++) {
                    form(depth - 2);
                }
                put(")");
                break;
        }
    }

    // ---- calls

    private void oneRun(int seed) {
        BracketTongue x = new BracketTongue();
        Oracle o = new Oracle();
        int builds = 1 + pick(3);
        int calls = 0;
        for (int b = 0; b < builds; b++) {
            String made = program();
            int[] numbers = Check.fives(made);
            for (int i = 0; i < numbers.length; i += 5) {
                int got = x.feed(numbers[i], numbers[i + 1], numbers[i + 2], numbers[i + 3], numbers[i + 4]);
                Check.due("seed " + seed + " feed", got, o.feed(numbers[i], numbers[i + 1], numbers[i + 2], numbers[i + 3], numbers[i + 4]));
            }
            int n = pick(40) == 0 ? pick(3200) - 50 : made.length();
            String who = "seed " + seed + " build " + b + " of\n" + made + "\n";
            Check.due(who + "build(" + n + ")", x.build(n), o.build(n));
            all(who, x, o);
            int more = pick(60);
            for (int i = 0; i < more; i++) {
                oneCall("seed " + seed + " call " + ++calls + " ", x, o);
            }
            all(who, x, o);
        }
    }

    private void all(String who, BracketTongue x, Oracle o) {
        for (int i = -1; i < 13; i++) {
            Check.due(who + "count(" + i + ")", x.count(i), o.count(i));
        }
        for (int i = -1; i < 3; i++) {
            Check.due(who + "fault(" + i + ")", x.fault(i), o.fault(i));
            Check.due(who + "at(" + i + ")", x.at(i), o.at(i));
        }
        for (int i = -1; i < 5; i++) {
            Check.due(who + "same(" + i + ")", x.same(i), o.same(i));
        }
    }

    private void oneCall(String who, BracketTongue x, Oracle o) {
        int v = pick(3) == 0 ? random.nextInt() : pick(5) - 1;
        switch (pick(14)) {
            case 0: case 1: case 2:
                v = pick(3) == 0 ? pick(300) : pick(6);
                Check.due(who + "run(" + v + ")", x.run(v), o.run(v));
                break;
            case 3:
                v = pick(10) == 0 ? 20001 - pick(4) : pick(2000);
                Check.due(who + "run(" + v + ")", x.run(v), o.run(v));
                break;
            case 4: case 5: Check.due(who + "input(" + v + ")", x.input(v), o.input(v)); break;
            case 6: Check.due(who + "output(" + v + ")", x.output(v), o.output(v)); break;
            case 7: v = pick(7); Check.due(who + "global(" + v + ")", x.global(v), o.global(v)); break;
            case 8: case 9: v = pick(40) == 0 ? v : pick(2); Check.due(who + "go(" + v + ")", x.go(v), o.go(v)); break;
            case 10: Check.due(who + "mark(" + v + ")", x.mark(v), o.mark(v)); break;
            case 11:
                if (pick(4) == 0) {
                    Check.due(who + "restart()", x.restart(), o.restart());
                } else {
                    Check.due(who + "clear()", x.clear(), o.clear());
                }
                break;
            default: all(who, x, o); break;
        }
    }
}
