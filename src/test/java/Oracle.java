import java.util.ArrayDeque;
import java.util.ArrayList;
import java.util.Arrays;
import java.util.HashMap;
import java.util.HashSet;
import java.util.IdentityHashMap;
import java.util.LinkedHashMap;
import java.util.List;
import java.util.Map;
import java.util.Set;

/**
 * A second reading of the document, written another way than the program: it gathers all faults and takes
 * the least, walks the data themselves, keeps environments in maps and what is to be done in a chain.
 */
final class Oracle {
    static final Set<String> FORM_WORDS = new HashSet<>(Arrays.asList(
            "quote", "lambda", "if", "let", "letrec", "set!", "begin", "and", "or", "define"));
    static final Map<String, Integer> PRIMITIVES = new HashMap<>();
    static {
        for (String one : "car cdr pair? null? integer? procedure? not emit".split(" ")) PRIMITIVES.put(one, 1);
        for (String two : "cons set-car! set-cdr! eq? + - * quotient remainder = <".split(" ")) PRIMITIVES.put(two, 2);
        PRIMITIVES.put("read", 0);
    }

    // ---- data and values

    static final class Datum {
        int place;
        Object it; // Integer, Boolean, String (a name) or List<Datum>
        Datum(int place, Object it) { this.place = place; this.it = it; }
        boolean isName() { return it instanceof String; }
        boolean isList() { return it instanceof List; }
        @SuppressWarnings("unchecked") List<Datum> list() { return (List<Datum>) it; }
        String name() { return (String) it; }
        String head() { return isList() && !list().isEmpty() && list().get(0).isName() ? list().get(0).name() : ""; }
    }
    static final Object NOTHING = new Object();
    static final Object NOT_YET = new Object();
    static final Object NIL = new Object();
    static final class Sym { int number; Sym(int n) { number = n; } }
    static final class Pair { Object a, d; Pair(Object a, Object d) { this.a = a; this.d = d; } }
    static final class Prim { String name; Prim(String n) { name = n; } }
    static final class Proc { Datum lambda; Env env; Proc(Datum l, Env e) { lambda = l; env = e; } }
    static final class Cell { Object v; Cell(Object v) { this.v = v; } }
    static final class Env {
        final Map<String, Cell> own = new HashMap<>();
        final Env up;
        Env(Env up) { this.up = up; }
        Cell find(String n) { for (Env e = this; e != null; e = e.up) { Cell c = e.own.get(n); if (c != null) return c; } return null; }
    }
    static final class Bad extends RuntimeException {
        private static final long serialVersionUID = 1;
        final int kind, place;
        Bad(int kind, int place) { this.kind = kind; this.place = place; }
    }
    static final class Stop extends RuntimeException {
        private static final long serialVersionUID = 1;
        final int answer;
        Stop(int answer) { super(null, null, false, false); this.answer = answer; }
    }

    // ---- the state

    byte[] tape = new byte[0];
    int faultKind = 0, faultPlace = -1;
    List<Datum> row;
    List<String> defined = new ArrayList<>();
    Map<String, Integer> numbers = new LinkedHashMap<>();
    int lambdas;
    Map<String, Cell> globals = new HashMap<>();
    IdentityHashMap<Datum, Object> quoted = new IdentityHashMap<>();
    ArrayDeque<Integer> inputs = new ArrayDeque<>();
    List<Integer> outputs = new ArrayList<>();
    Object pointer = NOTHING;
    Object[] places = {NOTHING, NOTHING, NOTHING, NOTHING};
    int cells, steps, answer = -1, through, open;
    Object latest = NOTHING;

    // ---- the tape and building

    int feed(int... five) {
        if (tape.length + 20 > 3000) return -1;
        byte[] more = Arrays.copyOf(tape, tape.length + 20);
        for (int i = 0; i < 20; i++) more[tape.length + i] = (byte) (five[i / 4] >>> (24 - 8 * (i % 4)));
        tape = more;
        return tape.length;
    }

    int build(int n) {
        if (n < 0 || n > tape.length) return -2;
        String text = new String(tape, 0, n, java.nio.charset.StandardCharsets.ISO_8859_1);
        tape = new byte[0];
        Parser p = new Parser(text);
        try {
            p.all();
        } catch (Bad b) {
            faultKind = b.kind; faultPlace = b.place;
            return -1;
        }
        Checker c = new Checker(p.row);
        c.all();
        int[] least = null;
        for (int[] f : c.faults) if (least == null || f[0] < least[0] || (f[0] == least[0] && f[1] < least[1])) least = f;
        if (least != null) { faultPlace = least[0]; faultKind = least[1]; return -1; }
        faultKind = 0; faultPlace = -1;
        row = p.row; numbers = p.numbers; defined = new ArrayList<>(c.definedNames); lambdas = c.lambdaCount;
        restart();
        return 0;
    }

    static final class Parser {
        final String t; int i = 0; final List<Datum> row = new ArrayList<>();
        final Map<String, Integer> numbers = new LinkedHashMap<>();
        Parser(String t) { this.t = t; }
        void skip() {
            while (i < t.length()) {
                char c = t.charAt(i);
                if (c == ' ' || c == '\n' || c == '\t') i++;
                else if (c == ';') { int e = t.indexOf('\n', i); i = e < 0 ? t.length() : e + 1; }
                else return;
            }
        }
        void all() { for (skip(); i < t.length(); skip()) row.add(datum(0)); }
        void meet(String n) { numbers.putIfAbsent(n, numbers.size()); }
        Datum datum(int within) {
            skip();
            if (i >= t.length()) throw new Bad(1, t.length());
            int at = i;
            char c = t.charAt(i);
            if (c == '(' || c == '\'') {
                if (within >= 30) throw new Bad(2, at);
                i++;
                List<Datum> parts = new ArrayList<>();
                if (c == '\'') {
                    meet("quote");
                    parts.add(new Datum(at, "quote"));
                    parts.add(datum(within + 1));
                } else {
                    for (skip(); i >= t.length() || t.charAt(i) != ')'; skip()) parts.add(datum(within + 1));
                    i++;
                }
                return new Datum(at, parts);
            }
            int e = i;
            while (e < t.length() && String.valueOf(t.charAt(e)).matches("[a-z0-9+\\-*/<>=!?_#]")) e++;
            String w = t.substring(i, e);
            i = e;
            if (w.equals("#t") || w.equals("#f")) return new Datum(at, w.equals("#t"));
            if (w.matches("-?[0-9]+")) {
                java.math.BigInteger b = new java.math.BigInteger(w);
                if (b.bitLength() > 31) throw new Bad(1, at);
                return new Datum(at, b.intValue());
            }
            if (w.isEmpty() || w.length() > 12 || w.matches("[0-9#].*|-[0-9].*")) throw new Bad(1, at);
            meet(w);
            return new Datum(at, w);
        }
    }

    static final class Checker {
        final List<Datum> row; final List<int[]> faults = new ArrayList<>();
        final Set<String> definable = new HashSet<>();
        final java.util.LinkedHashSet<String> definedNames = new java.util.LinkedHashSet<>();
        int forms, lambdaCount;
        Checker(List<Datum> row) { this.row = row; }
        static boolean isWord(String n) { return FORM_WORDS.contains(n) || PRIMITIVES.containsKey(n); }
        static boolean isDefine(Datum d) { return d.head().equals("define") && d.list().size() == 3 && d.list().get(1).isName(); }
        void bad(Datum d, int kind) { faults.add(new int[] {d.place, kind}); }
        void all() {
            for (Datum d : row) if (isDefine(d) && !isWord(d.list().get(1).name())) definable.add(d.list().get(1).name());
            for (Datum d : row) form(d, new HashSet<>(), true);
        }
        void formCounted(Datum d) { if (++forms > 1500) bad(d, 6); }
        void form(Datum d, Set<String> around, boolean inRow) {
            if (!d.isList()) {
                formCounted(d);
                if (d.isName()) {
                    if (FORM_WORDS.contains(d.name())) bad(d, 3);
                    else mean(d, around);
                }
                return;
            }
            formCounted(d);
            List<Datum> p = d.list();
            if (!wellFormed(d, inRow)) { bad(d, 3); return; }
            String h = d.head();
            if (h.equals("quote")) return;
            if (h.equals("lambda")) {
                if (++lambdaCount > 120) bad(d, 6);
                Set<String> in = new HashSet<>(around), own = new HashSet<>();
                for (Datum n : p.get(1).list()) { toBind(n, own); in.add(n.name()); }
                forms(p, 2, in);
            } else if (h.equals("let") || h.equals("letrec")) {
                Set<String> in = new HashSet<>(around), own = new HashSet<>();
                for (Datum b : p.get(1).list()) in.add(b.list().get(0).name());
                for (Datum b : p.get(1).list()) {
                    toBind(b.list().get(0), own);
                    form(b.list().get(1), h.equals("let") ? around : in, false);
                }
                forms(p, 2, in);
            } else if (h.equals("set!")) {
                if (isWord(p.get(1).name())) bad(p.get(1), 5); else mean(p.get(1), around);
                forms(p, 2, around);
            } else if (h.equals("define")) {
                Datum n = p.get(1);
                if (isWord(n.name())) bad(n, 5);
                else if (definedNames.add(n.name()) && definedNames.size() > 100) bad(n, 6);
                forms(p, 2, around);
            } else if (FORM_WORDS.contains(h)) {
                forms(p, 1, around);
            } else {
                forms(p, 0, around);
            }
        }
        void forms(List<Datum> p, int from, Set<String> around) { for (int i = from; i < p.size(); i++) form(p.get(i), around, false); }
        void toBind(Datum n, Set<String> own) { if (isWord(n.name()) || !own.add(n.name())) bad(n, 5); }
        void mean(Datum d, Set<String> around) {
            String n = d.name();
            if (!around.contains(n) && !definable.contains(n) && !PRIMITIVES.containsKey(n)) bad(d, 4);
        }
        static boolean wellFormed(Datum d, boolean inRow) {
            List<Datum> p = d.list();
            int n = p.size();
            if (n == 0) return false;
            switch (d.head()) {
                case "quote": return n == 2;
                case "if": return n == 4;
                case "begin": case "and": case "or": return n >= 2;
                case "set!": return n == 3 && p.get(1).isName();
                case "define": return inRow && isDefine(d);
                case "lambda":
                    return n >= 3 && p.get(1).isList() && p.get(1).list().size() <= 8
                            && p.get(1).list().stream().allMatch(Datum::isName);
                case "let": case "letrec":
                    return n >= 3 && p.get(1).isList() && p.get(1).list().size() <= 8
                            && p.get(1).list().stream().allMatch(b -> b.isList() && b.list().size() == 2 && b.list().get(0).isName());
                default: return n <= 9;
            }
        }
    }

    int fault(int what) { return what == 0 ? faultKind : what == 1 ? faultPlace : -1; }

    boolean restart() {
        if (row == null) return false;
        outputs.clear(); inputs.clear(); globals.clear(); quoted.clear();
        for (String n : defined) globals.put(n, new Cell(NOT_YET));
        cells = 0; steps = 0; answer = -1; through = 0; open = 0; latest = NOTHING;
        pointer = NOTHING;
        Arrays.fill(places, NOTHING);
        todo = null; mode = 'n';
        return true;
    }

    int input(int v) {
        if (row == null || inputs.size() >= 200) return -1;
        inputs.add(v);
        return inputs.size();
    }

    // ---- working: what is to be done is a chain of tasks

    abstract static class Task { Task next; }
    static final class Back extends Task { }
    static final class Through extends Task { }
    static final class Args extends Task { Datum call; int i; List<Object> got; Env env; }
    static final class Then extends Task { Datum form; int i; Env env; } // if, begin, body, and, or
    static final class Binds extends Task { Datum form; int i; Env env, inner; }
    static final class Gets extends Task { Datum form; Env env; } // set!, define

    Task todo;
    char mode = 'n'; // n the next form of the row, e a form, v a value, c a call
    Datum nowForm; Env nowEnv; Object nowValue; List<Object> nowCall;
    int stepsHere, stepsMost;

    <T extends Task> T push(T t) { t.next = todo; todo = t; return t; }

    int run(int n) {
        if (row == null || n < 0 || n > 20000) return -1;
        if (answer != 0 && answer < 10) {
            stepsHere = 0; stepsMost = n;
            try { while (true) turn(); } catch (Stop s) { answer = s.answer; }
        }
        pointer = latest;
        return answer;
    }

    void turn() {
        switch (mode) {
            case 'n':
                if (through == row.size()) throw new Stop(0);
                push(new Through());
                form(row.get(through), new Env(null));
                break;
            case 'e': eval(nowForm, nowEnv); break;
            case 'v': { Task t = todo; todo = t.next; goOn(t, nowValue); break; }
            default: call(nowCall); break;
        }
    }

    void form(Datum d, Env e) { mode = 'e'; nowForm = d; nowEnv = e; }
    void value(Object v) { mode = 'v'; nowValue = v; }
    Stop error(int e) { return new Stop(10 + e); }

    void eval(Datum d, Env e) {
        if (d.it instanceof Integer || d.it instanceof Boolean) { value(d.it); return; }
        if (d.isName()) {
            if (PRIMITIVES.containsKey(d.name())) { value(new Prim(d.name())); return; }
            Cell c = cell(d.name(), e);
            if (c.v == NOT_YET) throw error(5);
            value(c.v);
            return;
        }
        List<Datum> p = d.list();
        switch (d.head()) {
            case "quote": value(quoted.computeIfAbsent(d, q -> made(p.get(1)))); break;
            case "lambda": {
                int need = 1;
                for (String n : free(d)) if (e.find(n) != null) need++;
                if (cells + need > 40000) throw error(6);
                cells += need;
                value(new Proc(d, e));
                break;
            }
            case "if": case "begin": case "and": case "or":
                then(d, 1, e);
                break;
            case "let": case "letrec": {
                Binds b = new Binds();
                b.form = d; b.env = e; b.inner = new Env(e);
                if (d.head().equals("letrec")) {
                    for (Datum x : p.get(1).list()) b.inner.own.put(x.list().get(0).name(), new Cell(NOT_YET));
                }
                binds(b);
                break;
            }
            case "set!": case "define": { Gets g = push(new Gets()); g.form = d; g.env = e; form(p.get(2), e); break; }
            default: {
                Args a = push(new Args());
                a.call = d; a.got = new ArrayList<>(); a.env = e;
                form(p.get(0), e);
            }
        }
    }

    Cell cell(String n, Env e) { Cell c = e.find(n); return c != null ? c : globals.get(n); }

    void then(Datum d, int i, Env e) {
        boolean isLast = i == d.list().size() - 1 || (d.head().equals("if") && i > 1);
        if (!isLast) { Then t = push(new Then()); t.form = d; t.i = i; t.env = e; }
        form(d.list().get(i), e);
    }

    void binds(Binds b) {
        List<Datum> pairs = b.form.list().get(1).list();
        if (b.i == pairs.size()) { then(b.form, 2, b.inner); return; }
        push(b);
        form(pairs.get(b.i).list().get(1), b.form.head().equals("let") ? b.env : b.inner);
    }

    void goOn(Task t, Object v) {
        if (t instanceof Through) { latest = v; through++; mode = 'n'; return; }
        if (t instanceof Back) { open--; value(v); return; }
        if (t instanceof Then) {
            Then h = (Then) t;
            boolean isFalse = Boolean.FALSE.equals(v);
            switch (h.form.head()) {
                case "if": then(h.form, isFalse ? 3 : 2, h.env); break;
                case "and": if (isFalse) value(v); else then(h.form, h.i + 1, h.env); break;
                case "or": if (!isFalse) value(v); else then(h.form, h.i + 1, h.env); break;
                default: then(h.form, h.i + 1, h.env);
            }
            return;
        }
        if (t instanceof Binds) {
            Binds old = (Binds) t;
            String n = old.form.list().get(1).list().get(old.i).list().get(0).name();
            if (old.form.head().equals("letrec")) old.inner.own.get(n).v = v; else old.inner.own.put(n, new Cell(v));
            old.i++;
            binds(old);
            return;
        }
        if (t instanceof Gets) {
            Gets g = (Gets) t;
            Cell c = cell(g.form.list().get(1).name(), g.env);
            if (g.form.head().equals("set!") && c.v == NOT_YET) throw error(5);
            c.v = v;
            value(NOTHING);
            return;
        }
        Args a = (Args) t;
        a.got.add(v);
        if (a.got.size() < a.call.list().size()) { push(a); form(a.call.list().get(a.got.size()), a.env); }
        else { mode = 'c'; nowCall = a.got; }
    }

    void call(List<Object> all) {
        Object f = all.get(0);
        int got = all.size() - 1;
        if (f instanceof Prim) {
            String n = ((Prim) f).name;
            if (got != PRIMITIVES.get(n)) throw error(2);
            value(apply(n, got > 0 ? all.get(1) : null, got > 1 ? all.get(2) : null));
            return;
        }
        if (!(f instanceof Proc)) throw error(1);
        Proc p = (Proc) f;
        List<Datum> names = p.lambda.list().get(1).list();
        if (names.size() != got) throw error(2);
        boolean inLastPlace = todo instanceof Back;
        if (!inLastPlace && open == 1000) throw error(7);
        if (stepsHere == stepsMost) throw new Stop(1);
        stepsHere++;
        steps++;
        if (!inLastPlace) { push(new Back()); open++; }
        Env e = new Env(p.env);
        for (int i = 0; i < got; i++) e.own.put(names.get(i).name(), new Cell(all.get(i + 1)));
        then(p.lambda, 2, e);
    }

    Object apply(String n, Object a, Object b) {
        switch (n) {
            case "car": return pair(a).a;
            case "cdr": return pair(a).d;
            case "set-car!": pair(a).a = b; return NOTHING;
            case "set-cdr!": pair(a).d = b; return NOTHING;
            case "cons": if (cells == 40000) throw error(6); cells++; return new Pair(a, b);
            case "pair?": return a instanceof Pair;
            case "null?": return a == NIL;
            case "integer?": return a instanceof Integer;
            case "procedure?": return a instanceof Proc || a instanceof Prim;
            case "not": return Boolean.FALSE.equals(a);
            case "eq?": return eq(a, b);
            case "read": if (inputs.isEmpty()) throw new Stop(2); return inputs.poll();
            case "emit": { int v = integer(a); if (outputs.size() == 1000) throw new Stop(3); outputs.add(v); return NOTHING; }
            default:
        }
        int x = integer(a), y = integer(b);
        switch (n) {
            case "+": return x + y;
            case "-": return x - y;
            case "*": return x * y;
            case "=": return x == y;
            case "<": return x < y;
            default:
        }
        if (y == 0) throw error(4);
        long q = (long) x / y;
        return n.equals("quotient") ? (int) q : (int) (x - q * y);
    }

    Pair pair(Object a) { if (!(a instanceof Pair)) throw error(3); return (Pair) a; }
    int integer(Object a) { if (!(a instanceof Integer)) throw error(3); return (Integer) a; }

    static boolean eq(Object a, Object b) {
        if (a instanceof Integer || a instanceof Boolean) return a.equals(b);
        if (a instanceof Sym) return b instanceof Sym && ((Sym) a).number == ((Sym) b).number;
        if (a instanceof Prim) return b instanceof Prim && ((Prim) a).name.equals(((Prim) b).name);
        return a == b;
    }

    Object made(Datum d) {
        if (d.isName()) return new Sym(numbers.get(d.name()));
        if (!d.isList()) return d.it;
        Object made = NIL;
        for (int i = d.list().size() - 1; i >= 0; i--) made = new Pair(made(d.list().get(i)), made);
        return made;
    }

    final IdentityHashMap<Datum, Set<String>> freeOf = new IdentityHashMap<>();

    Set<String> free(Datum lambda) {
        return freeOf.computeIfAbsent(lambda, l -> { Set<String> s = new HashSet<>(); gatherFree(l, new HashSet<>(), s); return s; });
    }

    void gatherFree(Datum d, Set<String> bound, Set<String> out) {
        if (d.isName()) {
            if (!bound.contains(d.name()) && !PRIMITIVES.containsKey(d.name())) out.add(d.name());
            return;
        }
        if (!d.isList() || d.head().equals("quote")) return;
        List<Datum> p = d.list();
        Set<String> in = new HashSet<>(bound);
        int from = FORM_WORDS.contains(d.head()) ? 1 : 0;
        if (d.head().equals("lambda")) { for (Datum n : p.get(1).list()) in.add(n.name()); from = 2; }
        if (d.head().startsWith("let")) {
            for (Datum b : p.get(1).list()) in.add(b.list().get(0).name());
            for (Datum b : p.get(1).list()) gatherFree(b.list().get(1), d.head().equals("let") ? bound : in, out);
            from = 2;
        }
        for (int i = from; i < p.size(); i++) gatherFree(p.get(i), in, out);
    }

    // ---- looking

    int output(int i) { return i >= 0 && i < outputs.size() ? outputs.get(i) : 0; }
    int clear() { int n = outputs.size(); outputs.clear(); return n; }
    boolean global(int i) {
        if (row == null || i < 0 || i >= defined.size()) return false;
        Object v = globals.get(defined.get(i)).v;
        pointer = v == NOT_YET ? NOTHING : v;
        return true;
    }
    boolean go(int which) {
        if (!(pointer instanceof Pair) || which < 0 || which > 1) return false;
        pointer = which == 0 ? ((Pair) pointer).a : ((Pair) pointer).d;
        return true;
    }
    boolean mark(int p) { if (p < 0 || p > 3) return false; places[p] = pointer; return true; }
    boolean same(int p) { return p >= 0 && p <= 3 && eq(pointer, places[p]); }
    int at(int what) {
        Object v = pointer;
        if (what == 0) {
            return v == NOTHING ? 0 : v instanceof Integer ? 1 : Boolean.FALSE.equals(v) ? 2 : Boolean.TRUE.equals(v) ? 3
                    : v == NIL ? 4 : v instanceof Sym ? 5 : v instanceof Pair ? 6 : v instanceof Proc ? 7 : 8;
        }
        if (what != 1) return -1;
        return v instanceof Integer ? (Integer) v : v instanceof Sym ? ((Sym) v).number
                : v instanceof Proc ? ((Proc) v).lambda.list().get(1).list().size()
                : v instanceof Prim ? PRIMITIVES.get(((Prim) v).name) : 0;
    }
    int count(int what) {
        switch (what) {
            case 0: return tape.length;
            case 1: return row == null ? 0 : 1;
            case 2: return row == null ? 0 : row.size();
            case 3: return through;
            case 4: return defined.size();
            case 5: return lambdas;
            case 6: return inputs.size();
            case 7: return outputs.size();
            case 8: return cells;
            case 9: return open;
            case 10: return steps;
            case 11: return answer;
            default: return -1;
        }
    }
}
