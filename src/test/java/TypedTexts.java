import java.util.ArrayList;
import java.util.List;
import java.util.Random;

/** Texts that mostly work without an ERROR: each NAME is known as an INTEGER, a LIST or a PROCEDURE of so many. */
final class TypedTexts {
    private static final int INTEGER = -1;
    private static final int LIST = -2;
    private static final String[] NAMES = {"a", "b", "c", "d", "e", "f", "g", "h", "i", "j", "k", "n"};
    private static final String[] FIXED = {
        "(define many (lambda (n) (if (< n 1) 0 (begin (emit n) (many (- n 1)))))) (many 1500)",
        "(define fill (lambda (l) (fill (cons 1 l)))) (fill '())",
        "(define keep (lambda (l n) (keep (cons (lambda () (set! n (+ n 1)) l) l) (+ n 1)))) (keep '() 0)",
        "(define down (lambda (n) (if (= n 0) 0 (+ 1 (down (- n 1)))))) (down 999) (down 1000)",
        "(define even (lambda (n) (if (= n 0) #t (odd (- n 1))))) (define odd (lambda (n) (if (= n 0) #f (even (- n 1))))) (even 3001)",
        "(define sum (lambda (l s) (if (null? l) s (sum (cdr l) (+ s (car l)))))) (sum '(1 2 3 4) 0)",
        "(define make (lambda (n) (lambda () (set! n (+ n 1)) n))) (define c1 (make 5)) (define c2 (make 9)) (c1) (c2) (emit (+ (c1) (c2)))",
        "(define echo (lambda (s) (let ((v (read))) (if (< v 0) s (begin (emit (+ s v)) (echo (+ s v))))))) (echo 0)",
        "(define tree (lambda (n) (if (< n 2) 1 (+ (tree (- n 1)) (tree (- n 2)))))) (tree 12)",
        "(letrec ((p (lambda (n) (or (= n 0) (q (- n 1))))) (q (lambda (n) (and (< 0 n) (p (- n 1)))))) (cons (p 900) (q 900)))",
    };

    private final Random random;
    private final StringBuilder text = new StringBuilder();
    private final List<String> names = new ArrayList<>();
    private final List<Integer> types = new ArrayList<>();

    TypedTexts(Random random) {
        this.random = random;
    }

    private int pick(int below) {
        return random.nextInt(below);
    }

    private TypedTexts put(String part) {
        text.append(part);
        return this;
    }

    private String name() {
        return NAMES[pick(NAMES.length)];
    }

    String text() {
        int globals = 1 + pick(4);
        for (int i = 0; i < globals; i++) {
            names.add("g" + i);
            types.add(pick(3) == 0 ? (pick(2) == 0 ? INTEGER : LIST) : pick(4));
        }
        for (int i = 0; i < globals; i++) {
            put("(define g" + i + " ");
            int type = types.get(i);
            if (type == LIST) {
                put("(cons 7 '(1 2))");
            } else if (type == INTEGER) {
                put(String.valueOf(pick(9)));
            } else {
                procedure(type, 5);
            }
            put(")");
        }
        int rows = 1 + pick(6);
        for (int i = 0; i < rows; i++) {
            if (pick(12) == 0) {
                put(FIXED[pick(FIXED.length)]);
            } else if (pick(5) == 0) {
                put("(define g" + pick(globals + 1) + " ");
                integer(3);
                put(")");
            } else {
                integer(6);
            }
        }
        return text.toString();
    }

    /** A NAME of a type that still means that, or null: a nearer binding may hide it. */
    private String of(int type) {
        List<String> found = new ArrayList<>();
        for (int i = 0; i < names.size(); i++) {
            if (types.get(i) == type && names.lastIndexOf(names.get(i)) == i) {
                found.add(names.get(i));
            }
        }
        return found.isEmpty() ? null : found.get(pick(found.size()));
    }

    private void forget(int had) {
        while (names.size() > had) {
            names.remove(names.size() - 1);
            types.remove(types.size() - 1);
        }
    }

    private void procedure(int gets, int depth) {
        int had = names.size();
        put("(lambda (");
        int shift = pick(NAMES.length);
        for (int i = 0; i < gets; i++) {
            String n = NAMES[(shift + i) % NAMES.length];
            put(i > 0 ? " " : "").put(n);
            names.add(n);
            types.add(INTEGER);
        }
        put(") ");
        String self = of(gets);
        if (gets > 0 && self != null && pick(2) == 0) {
            String counter = names.get(had);
            put("(if (< " + counter + " 1) ");
            integer(depth - 2);
            put(pick(2) == 0 ? "(+ 1 (" : "(begin (").put(self).put(" (- " + counter + " 1)");
            for (int i = 1; i < gets; i++) {
                put(" ");
                integer(depth - 3);
            }
            put(")))");
        } else {
            body(depth - 1);
        }
        put(")");
        forget(had);
    }

    private void body(int depth) {
        for (int i = pick(4); i == 0; i = pick(4)) {
            effect(depth - 1);
            put(" ");
        }
        integer(depth);
    }

    private void effect(int depth) {
        String v = of(INTEGER);
        String l = of(LIST);
        int way = pick(5);
        if (way == 0 && v != null) {
            put("(set! " + v + " ");
        } else if (way == 1 && l != null) {
            put("(set-car! " + l + " ");
        } else {
            put("(emit ");
        }
        integer(depth);
        put(")");
    }

    private void bindings(int depth, boolean isRec) {
        int n = pick(4);
        int shift = pick(NAMES.length);
        List<Integer> kinds = new ArrayList<>();
        for (int i = 0; i < n; i++) {
            kinds.add(pick(3) == 0 ? LIST : pick(2) == 0 ? pick(3) : INTEGER);
        }
        put(isRec ? "(letrec (" : "(let (");
        if (isRec) {
            bind(shift, kinds);
        }
        for (int i = 0; i < n; i++) {
            put("(" + NAMES[(shift + i) % NAMES.length] + " ");
            int kind = kinds.get(i);
            if (kind == LIST) {
                put(pick(2) == 0 ? "'(4 5)" : "(cons 1 2)");
            } else if (kind == INTEGER) {
                integer(depth - 2);
            } else {
                procedure(kind, depth - 1);
            }
            put(")");
        }
        put(") ");
        if (!isRec) {
            bind(shift, kinds);
        }
    }

    private void bind(int shift, List<Integer> kinds) {
        for (int i = 0; i < kinds.size(); i++) {
            names.add(NAMES[(shift + i) % NAMES.length]);
            types.add(kinds.get(i));
        }
    }

    private void truth(int depth) {
        switch (pick(7)) {
            case 0: put("#t"); break;
            case 1: put("(not "); truth(depth - 1); put(")"); break;
            case 2: put("(and "); truth(depth - 1); put(" "); truth(depth - 1); put(")"); break;
            case 3: put("(integer? "); integer(depth - 1); put(")"); break;
            default: put(pick(2) == 0 ? "(< " : "(= "); integer(depth - 1); put(" "); integer(depth - 1); put(")"); break;
        }
    }

    private void atom() {
        String v = of(INTEGER);
        put(v != null && pick(3) > 0 ? v : String.valueOf(pick(7) - 1));
    }

    private void integer(int depth) {
        put(" ");
        if (depth <= 0) {
            atom();
            return;
        }
        int had = names.size();
        int gets = pick(4);
        switch (pick(13)) {
            case 0: atom(); break;
            case 1: put("(if "); truth(depth - 1); put(" "); integer(depth - 1); integer(depth - 1); put(")"); break;
            case 2: case 3: bindings(depth, false); body(depth - 1); put(")"); forget(had); break;
            case 4: bindings(depth, true); body(depth - 1); put(")"); forget(had); break;
            case 5: put("(begin "); effect(depth - 1); integer(depth - 1); put(")"); break;
            case 6: put(pick(2) == 0 ? "(and " : "(or #f "); integer(depth - 1); integer(depth - 1); put(")"); break;
            case 7: case 8: {
                String[] two = {"+", "-", "*", "+", "-", "quotient", "remainder"};
                put("(" + two[pick(two.length)]); integer(depth - 1); integer(depth - 1); put(")");
                break;
            }
            case 9: {
                String l = of(LIST);
                put(l == null ? "(car '(9 8))" : "(car " + l + ")");
                break;
            }
            case 10: if (pick(4) == 0) { put("(read)"); } else { atom(); } break;
            default: {
                String f = of(gets);
                put("(");
                if (f == null || pick(4) == 0) {
                    procedure(gets, depth - 1);
                } else {
                    put(f);
                }
                for (int i = 0; i < gets; i++) {
                    integer(depth - 2);
                }
                put(")");
                break;
            }
        }
    }
}
