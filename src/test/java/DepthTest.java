/** How much may lie on top of one another: values, bindings around a lambda, bodies, NAMES. */
public final class DepthTest {
    public static void main(String[] args) {
        for (String part : new String[] {"1", "(if #t 1 2)", "(if #f 2 1)", "(and 3 2 1)", "(or #f #f 1)", "(begin 3 1)",
            "(let ((x 3) (y 1)) y)", "(letrec ((x 3) (y 1)) y)", "(car '(1))", "((lambda (x) x) 1)",
            "(let ((x 3)) (set! x 4) 1)", "(or (set! g 1) 7)", "(and (set! g 3) g 1)", "((lambda () (lambda () 3) 1))",
            "(if (lambda () 1) 1 2)", "(if 'a 1 2)", "(or #f (and 3 (if #f 3 1)))"}) {
            valuesOnTop(part);
        }
        keptOverBodies();
        bodiesAndBindings();
        manyNames();
        openCallsWithManyValues();
        Check.end("DepthTest");
    }

    /** A part that seems to need less than it leaves makes rows of it too short for what comes on top. */
    private static void valuesOnTop(String part) {
        boolean isNothing = part.startsWith("(or (set!");
        String seven = Check.times(part + " ", 7);
        int depth = Math.min(20, 1100 / seven.length());
        StringBuilder text = new StringBuilder("(define g 0) (define s (lambda (a b c d e f m h)");
        text.append(isNothing ? " (if (integer? a) 0 (+ 7 h))))" : " (+ a (+ b (+ c (+ d (+ e (+ f (+ m h)))))))))");
        String calls = Check.times("(s " + seven, depth) + "100" + Check.times(")", depth);
        int due = 100 + 7 * depth;
        Check.integer(text + calls, due);
        Check.integer(text + "((lambda () " + calls + "))", due);
        Check.integer(text + "((lambda () (+ 0 " + calls + ")))", due);
        Check.integer(text + "(let ((t 5)) " + calls + ")", due);
    }

    private static void keptOverBodies() {
        String number = "(lambda (x y) (+ (* x 10) y))";
        String define = "(define n " + number + ")";
        Check.integer(define + "((((lambda (a b c) (lambda (d e) (lambda (f) (n (n (n (n (n c e) a) d) b) f)))) 1 2 3)"
                + " 4 5) 6)", 351426);
        Check.integer(define + "((((lambda (a b c) (lambda (d e) b (lambda (f) (n (n (n (n (n c e) a) d) b) f)))) 1 2 3)"
                + " 4 5) 6)", 351426);
        Check.integer(define + "(((((lambda (a b) (lambda (c) b (lambda (d) c a (lambda (e) (n (n (n (n d c) b) a) e)))))"
                + " 1 2) 3) 4) 5)", 43215);
        Check.integer("(let ((a 1) (b 2)) (let ((f (lambda () (lambda () (set! b (+ b a)) (set! a 9) b)))) ((f)) ((f))"
                + " (+ (* 100 a) b)))", 912);
        behindCalls();
    }

    /** A body that goes on behind a call finds the bindings that it keeps itself, not those of what was called. */
    private static void behindCalls() {
        String ab = "(define a (lambda (k) (lambda (g) (g) k))) (define b (lambda (m) (lambda () m)))";
        Check.integer(ab + "((a 5) (b 7))", 5);
        Check.integer(ab + "(define c (a 5)) (+ (c (b 7)) (c (lambda () (c (b 8)))))", 10);
        Check.integer("(define a (lambda (k l) (lambda (g) (set! k (+ k (g))) (set! l (+ l (g))) (+ (* 100 k) l))))"
                + "(define b (lambda (m) (lambda () (set! m (+ m 1)) m))) ((a 10 20) (b 0))", 1122);
        Check.integer("((lambda (a b c) (set! c 9) (set! b 4) (+ (* a 100) (+ (* b 10) c))) 1 2 3)", 149);
        Check.integer("(define f (lambda (a b c) (set! b (g c)) (set! c (g b)) (+ (* a 100) (+ (* b 10) c))))"
                + "(define g (lambda (x) (let ((y 1) (z x)) (set! z (+ z y)) z))) (+ 0 (f 1 2 3))", 145);
        Check.integer("((lambda (k) (let ((x 1) (y 2)) ((lambda () (set! y (+ y k)))) (set! x (+ x y)) (+ x y))) 10)", 25);
    }

    /** From p on, so that none is a word. */
    private static String name(int i) {
        return "" + (char) ('p' + i / 26) + (char) ('a' + i % 26);
    }

    /** 28 lambdas within a define, 8 NAMES each, and the innermost uses all of them. */
    private static void bodiesAndBindings() {
        int bodies = 28;
        StringBuilder text = new StringBuilder("(define f ");
        for (int i = 0; i < bodies; i++) {
            text.append("(lambda (");
            for (int j = 0; j < 8; j++) {
                text.append(name(8 * i + j)).append(j < 7 ? " " : ")");
            }
        }
        for (int i = 0; i < 8 * bodies; i++) {
            text.append(i % 8 == 3 ? "(emit " + name(i) + ")" : " " + name(i));
        }
        text.append(Check.times(")", bodies + 1));
        for (int i = 0; i < bodies; i++) {
            text.append("(set! f(f 1 2 3 " + (i + 1) + " 5 6 7 " + (i == bodies - 1 ? "88" : "8") + "))");
        }
        BracketTongue x = Check.built(text + "f");
        Check.due("run of many bodies", x.run(bodies), 0);
        Check.due("the last NAME of the innermost", x.at(1), 88);
        for (int i = 0; i < bodies; i++) {
            Check.due("a NAME of body " + i, x.output(i), i + 1);
        }
        Check.due("CELLS of many bodies", x.count(8), bodies + 8 * (bodies * (bodies - 1) / 2));
    }

    /** As many different NAMES as 3,000 bytes have room for. */
    private static void manyNames() {
        StringBuilder text = new StringBuilder("'(");
        String ones = "abcdefghijklmnopqrstuvwxyz+*/<>=!?_-";
        for (int i = 0; i < ones.length(); i++) {
            text.append(ones.charAt(i)).append(' ');
        }
        int names = ones.length();
        for (int i = 0; i < 26 * 36 && text.length() < 2992; i++) {
            String two = "" + ones.charAt(i / 36) + ones.charAt(i % 36);
            if (!two.equals("if") && !two.equals("or")) {
                text.append(two).append(' ');
                names++;
            }
        }
        BracketTongue x = Check.worked(text + ")'zz1", 0);
        Check.due("a NAME", x.at(0), 5);
        Check.due("behind quote and all others", x.at(1), names + 1);
        Check.due("there are many", names > 950, true);
    }

    private static void openCallsWithManyValues() {
        String text = "(define g (lambda (a b c d e f h n) (if (= n 0) 0 (+ 1 (+ (+ a (+ b (+ c (+ d (+ e (+ f"
                + " (g a b c d e f h (- n 1)))))))) h)))))";
        Check.integer(text + "(g 1 2 3 4 5 6 7 999)", 999 * 29);
        Check.due("one more is too deep", Check.worked(text + "(g 1 2 3 4 5 6 7 1000)", 17).count(9), 1000);
    }
}
