/**
 * One object for many texts: whatever it has built and worked before, the next text is read, told of and worked as by
 * a new object.
 */
public final class ReuseTest {
    private static final int CALLS_MOST = 512;

    private static final String[] TEXTS = {
        "",
        "12 'a #t",
        // faults, with bindings and bodies around them
        "(define f (lambda (a b) (let ((c 1)) (lambda (d) (zz a b c d)))))",
        "(let ((a 1) (b 2)) (lambda (c) (lambda (d) (letrec ((e 1) (e 2)) e))))",
        "(lambda (a) (lambda (b) (if a b)))",
        "(define a 1) (define car 2)",
        "(lambda (a) ((b 'c",
        "'('('(1 A)))",
        Check.times("(", 31),
        "(define f (lambda (x) " + Check.times("(lambda (y) x) ", 120) + "))",
        // the most of each
        Check.times("1 ", 1400),
        Check.times("(lambda () 1)", 120),
        // NAMES, words that are written out, data
        "(define q '(a b (c quote) . d))",
        "(define q (quote (a b (c quote) 'd))) (car q) (cdr q) 'lambda (quote quote)",
        "'zz '(yy xx zz) (quote ww)",
        "(define p '(1 2 3)) (set-car! p 9) (set-cdr! (cdr p) p) p",
        "'(1 2 3 4 5 6 7 8 9 1 2 3 4 5 6 7 8 9 1 2 3 4 5 6 7 8 9)",
        // ended or held up within calls
        "(define f (lambda (n) (if (= n 0) (car n) (+ 1 (f (- n 1)))))) (f 20)",
        "(letrec ((a b) (b 1)) a)",
        "(define mk (lambda (k) (lambda (d) (+ k (+ d (read)))))) (+ 1 ((mk 5) 7)) (read)",
        "(define f (lambda (n) (emit n) (+ n (f (- n 1))))) (f 3000)",
        "(define f (lambda () (f))) (f)",
        // bindings that are kept
        "(let ((k 7)) ((lambda () (set! k (+ k 1)) k)))",
        "(define c (let ((k 0) (m 5)) (lambda (d) (set! k (+ k d)) (cons k m)))) (c 1) (c 2)",
        "(define a 1) (define b (lambda () (+ a c))) (define c 3) (b)",
    };

    private static int calls;

    public static void main(String[] args) {
        for (String before : TEXTS) {
            for (String text : TEXTS) {
                usedOnce(before, text);
                usedOften(before, text);
            }
        }
        oneAfterAnother();
        Check.end("ReuseTest");
    }

    private static void usedOnce(String before, String text) {
        BracketTongue x = new BracketTongue();
        calls = 0;
        story(x, before);
        compare(x, text, "behind " + Check.shown(before));
    }

    /** The two programs that an object goes to and fro between have both been used, and more than once. */
    private static void usedOften(String before, String text) {
        BracketTongue x = new BracketTongue();
        calls = 0;
        int costs = feeds(before) + 6;
        for (int i = 0; i < 5 && calls + costs + feeds(text) + 120 < CALLS_MOST; i++) {
            calls += costs;
            Check.build(x, before);
            x.input(3);
            x.run(9);
            x.mark(i);
            x.run(500);
        }
        compare(x, text, "often behind " + Check.shown(before));
    }

    private static void oneAfterAnother() {
        BracketTongue x = new BracketTongue();
        calls = 0;
        for (String text : TEXTS) {
            if (text.length() > 300 || calls + feeds(text) + 120 > CALLS_MOST) {
                continue;
            }
            compare(x, text, "in a row");
        }
    }

    private static void compare(BracketTongue x, String text, String how) {
        String due = story(new BracketTongue(), text);
        int costs = calls;
        String got = story(x, text);
        Check.due(Check.shown(text) + " " + how, got, due);
        Check.due("calls of one object", costs <= CALLS_MOST, true);
    }

    private static int feeds(String text) {
        return (text.length() + 19) / 20;
    }

    /** What a text answers, from its build on; but for a fault it does not tell what was there before. */
    private static String story(BracketTongue x, String text) {
        StringBuilder all = new StringBuilder();
        calls += feeds(text) + 3;
        all.append(Check.build(x, text)).append(' ').append(x.fault(0)).append(' ').append(x.fault(1));
        if (x.fault(0) != 0) {
            return all.toString();
        }
        calls += 110;
        all.append(" runs ").append(x.run(3)).append(' ').append(x.count(9)).append(' ').append(x.count(10));
        all.append(' ').append(x.input(-4)).append(' ').append(x.run(700)).append(' ').append(Check.seen(x));
        walked(x, all);
        for (int i = 0; i < 4; i++) {
            all.append(" global ").append(x.global(i));
            walked(x, all);
        }
        all.append(" again ").append(x.restart()).append(' ').append(x.run(2)).append(' ').append(x.input(8));
        return all.append(' ').append(x.run(20)).append(' ').append(x.count(8)).append(' ').append(x.clear()).toString();
    }

    private static void walked(BracketTongue x, StringBuilder all) {
        for (int i = 0; i < 5; i++) {
            all.append(' ').append(x.at(0)).append('/').append(x.at(1));
            if (!x.go(i & 1)) {
                return;
            }
        }
    }
}
