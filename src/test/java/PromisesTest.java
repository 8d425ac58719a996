/** The promises 1 to 15, one after the other: ordinary calls, edges, wrong arguments, no PROGRAM. */
public final class PromisesTest {
    private static final String FACTORIAL = "(define f (lambda (n) (if (= n 0) 1 (* n (f (- n 1))))))";

    public static void main(String[] args) {
        newObject();
        feed();
        build();
        fault();
        restart();
        input();
        run();
        output();
        clear();
        global();
        go();
        mark();
        same();
        at();
        count();
        objectsAreApart();
        Check.end("PromisesTest");
    }

    private static final int[] EXTREMES = {Integer.MIN_VALUE, -2, -1, 2, 12, 100, 20001, Integer.MAX_VALUE};

    private static void newObject() {
        BracketTongue x = new BracketTongue();
        for (int i = 0; i < 11; i++) {
            Check.due("1: count(" + i + ")", x.count(i), 0);
        }
        Check.due("1: count(11)", x.count(11), BracketTongue.NONE);
        Check.due("1: NONE", BracketTongue.NONE, -1);
        Check.due("1: at(0)", x.at(0), 0);
        Check.due("1: at(1)", x.at(1), 0);
        Check.due("1: output(0)", x.output(0), 0);
        Check.due("1: build(1)", x.build(1), -2);
    }

    private static void feed() {
        BracketTongue x = new BracketTongue();
        for (int i = 1; i <= 150; i++) {
            Check.due("2: feed", x.feed(0x20202020, 0x20202020, 0x20202020, 0x20202020, 0x20202020), 20 * i);
        }
        Check.due("2: feed beyond 3000", x.feed(0, 0, 0, 0, 0), -1);
        Check.due("2: the tape stays", x.count(0), 3000);
        Check.due("2: what was too much is not there", x.build(3000), 0);
        Check.due("2: feed behind build", x.feed(0x31323334, 0x35202020, 0x20202020, 0x20202020, 0x20202037), 20);
        Check.due("2: build", x.build(20), 0);
        x.run(0);
        Check.due("2: the last byte is the fifth number's lowest", x.at(1), 7);
        x.feed(0x31323334, 0x35202020, 0, 0, 0x20202037);
        x.build(8);
        x.run(0);
        Check.due("2: the highest byte is first", x.at(1), 12345);
        x.feed(0xff202020, 0, 0, 0, 0);
        Check.due("2: a byte above 127", x.build(4), -1);
        Check.due("2: its fault", x.fault(1), 0);
        x.feed(0x20202020, 0x20202031, 0x32202020, 0x20202020, 0x20202020);
        x.feed(0x20202020, 0x20202020, 0x20202020, 0x20202020, 0x20202033);
        Check.due("2: two feeds", x.build(40), 0);
        x.run(0);
        Check.due("2: two feeds in a row", x.at(1), 3);
    }

    private static void build() {
        BracketTongue x = new BracketTongue();
        Check.due("3: build(0) of nothing", x.build(0), 0);
        Check.due("3: a program", x.count(1), 1);
        int[] numbers = Check.fives("1 2 3)              ");
        x.feed(numbers[0], numbers[1], numbers[2], numbers[3], numbers[4]);
        Check.due("3: more than there are", x.build(21), -2);
        Check.due("3: below 0", x.build(-1), -2);
        Check.due("3: far below", x.build(Integer.MIN_VALUE), -2);
        Check.due("3: far above", x.build(Integer.MAX_VALUE), -2);
        Check.due("3: the tape is as it was", x.count(0), 20);
        Check.due("3: the first bytes", x.build(5), 0);
        Check.due("3: the tape is empty", x.count(0), 0);
        Check.due("3: their forms", x.count(2), 3);
        Check.due("3: nothing is left", x.build(1), -2);
        Check.due("3: run", x.run(0), 0);

        Check.build(x, "(define p (cons 1 2)) (emit 4) (read)");
        x.run(1);
        x.input(8);
        x.global(0);
        x.mark(2);
        x.go(1);
        Check.due("3: with a fault", Check.build(x, "(cons 1 2) )"), -1);
        Check.due("3: the tape is empty behind a fault", x.count(0), 0);
        Check.due("3: outputs stay", x.output(0), 4);
        Check.due("3: inputs stay", x.count(6), 1);
        Check.due("3: the pointer stays", x.at(1), 2);
        Check.due("3: cells stay", x.count(8), 1);
        Check.due("3: forms stay", x.count(2), 3);
        Check.due("3: through stay", x.count(3), 2);
        Check.due("3: the latest answer stays", x.count(11), 2);
        Check.due("3: a fault of forms", Check.build(x, "(define q 1) (lambda (a) b)"), -1);
        Check.due("3: defined stay", x.count(4), 1);
        Check.due("3: lambdas stay", x.count(5), 0);
        x.global(0);
        Check.due("3: places stay", x.same(2), true);
        Check.due("3: it goes on", x.run(0), 0);
        Check.due("3: with its value", x.at(1), 8);
        x.global(0);
        x.mark(0);
        Check.due("3: the next program", Check.build(x, "(define q 1)"), 0);
        Check.due("3: it begins anew", x.count(7) + x.count(6) + x.count(8) + x.count(3) + x.count(10), 0);
        Check.due("3: no answer", x.count(11), -1);
        Check.due("3: pointer at nothing", x.at(0), 0);
        Check.due("3: place has nothing", x.same(0), true);
    }

    private static void fault() {
        BracketTongue x = new BracketTongue();
        Check.due("4: before any", x.fault(0), 0);
        Check.due("4: place before any", x.fault(1), -1);
        Check.build(x, "(if)");
        Check.due("4: kind", x.fault(0), 3);
        Check.due("4: place", x.fault(1), 0);
        for (int what : EXTREMES) {
            Check.due("4: fault(" + what + ")", x.fault(what), -1);
        }
        x.build(-1);
        x.build(1);
        Check.due("4: kind behind -2", x.fault(0), 3);
        Check.build(x, "1 nosuch");
        Check.due("4: kind of the latest", x.fault(0), 4);
        Check.due("4: place of the latest", x.fault(1), 2);
        Check.build(x, "1");
        x.restart();
        Check.due("4: none", x.fault(0), 0);
        Check.due("4: no place", x.fault(1), -1);
        Check.build(x, ")");
        x.restart();
        x.run(1);
        Check.due("4: a restart is no build", x.fault(0), 1);
    }

    private static void restart() {
        BracketTongue x = new BracketTongue();
        Check.due("5: without a program", x.restart(), false);
        Check.build(x, ")");
        Check.due("5: a fault is no program", x.restart(), false);
        Check.build(x, "(define a (cons 1 '(2))) (emit 5) (set-car! (cdr a) 3) ((lambda () 1)) (read)");
        x.input(4);
        x.input(4);
        x.run(9);
        x.global(0);
        x.mark(3);
        Check.due("5: with a program", x.restart(), true);
        Check.due("5: the pointer", x.at(0), 0);
        Check.due("5: places", x.same(3), true);
        int[] zero = {3, 6, 7, 8, 9, 10};
        for (int what : zero) {
            Check.due("5: count(" + what + ")", x.count(what), 0);
        }
        Check.due("5: count(11)", x.count(11), -1);
        Check.due("5: count(2) stays", x.count(2), 5);
        Check.due("5: output", x.output(0), 0);
        Check.due("5: global", x.global(0), true);
        Check.due("5: has nothing", x.at(0), 0);
        x.run(0);
        x.global(0);
        x.go(1);
        x.go(0);
        Check.due("5: what was set again", x.at(1), 3);
        x = Check.built("(define a '(2)) (+ 1 (car a)) (set-car! a 9) (car 1)");
        x.run(0);
        x.restart();
        Check.due("5: behind an error", x.run(0), 13);
        x.restart();
        x.run(0);
        x.restart();
        x = Check.built("(define l '(2)) (car l) (read) (set-car! l 9)");
        x.run(0);
        x.input(1);
        x.run(0);
        x.restart();
        x.run(0);
        x.global(0);
        x.go(0);
        Check.due("5: data are made anew", x.at(1), 2);
        x = Check.built(FACTORIAL + "(f 9)");
        x.run(4);
        x.restart();
        Check.due("5: open calls are gone", x.count(9), 0);
        Check.due("5: run anew", x.run(100), 0);
        Check.due("5: its value", x.at(1), 362880);
        x = Check.built("(if #t 5 6) (read)");
        x.run(0);
        x.restart();
        Check.build(x, "(read)");
        x.run(0);
        Check.due("5: no form is through", x.at(0), 0);
        x = Check.built("(if (< (read) 5) 5 6)");
        x.input(3);
        x.run(0);
        x.restart();
        x.run(0);
        Check.due("5: nor behind a restart", x.at(0), 0);
    }

    private static void input() {
        BracketTongue x = new BracketTongue();
        Check.due("6: without a program", x.input(1), -1);
        Check.due("6: none", x.count(6), 0);
        Check.build(x, "(define f (lambda () (emit (read)) (f))) (f)");
        for (int i = 1; i <= 200; i++) {
            Check.due("6: input", x.input(i * 7), i);
        }
        Check.due("6: too many", x.input(1), -1);
        Check.due("6: count", x.count(6), 200);
        Check.due("6: run", x.run(150), 1);
        Check.due("6: those left", x.count(6), 50);
        for (int i = 201; i <= 350; i++) {
            Check.due("6: more", x.input(i * 7), i - 150);
        }
        Check.due("6: too many again", x.input(1), -1);
        Check.due("6: run", x.run(20000), 2);
        // Some of them: an object answers as is due for 512 calls.
        for (int i = 0; i < 350; i += 7) {
            Check.due("6: taken in order", x.output(i), (i + 1) * 7);
        }
        x.input(Integer.MIN_VALUE);
        x.run(5);
        Check.due("6: the least", x.output(350), Integer.MIN_VALUE);
        x = Check.worked("1", 0);
        Check.due("6: when all is through", x.input(3), 1);
    }

    private static void run() {
        BracketTongue x = new BracketTongue();
        Check.due("7: without a program", x.run(0), -1);
        Check.build(x, FACTORIAL + " 77 (f 5)");
        Check.due("7: below 0", x.run(-1), -1);
        Check.due("7: above", x.run(20001), -1);
        Check.due("7: far", x.run(Integer.MIN_VALUE), -1);
        Check.due("7: nothing was done", x.count(3), 0);
        Check.due("7: no answer", x.count(11), -1);
        Check.due("7: none", x.run(0), 1);
        Check.due("7: pointer at the latest form through", x.at(1), 77);
        Check.due("7: four", x.run(4), 1);
        x.global(0);
        x.run(20001);
        Check.due("7: a wrong run leaves the pointer", x.at(0), 7);
        Check.due("7: and the answer", x.count(11), 1);
        Check.due("7: the two last", x.run(2), 0);
        Check.due("7: value", x.at(1), 120);
        x.global(0);
        Check.due("7: that again", x.run(5), 0);
        Check.due("7: pointer again", x.at(1), 120);
        Check.due("7: steps", x.count(10), 6);
        x = Check.built("5 (car 5) 6");
        Check.due("7: error", x.run(20000), 13);
        Check.due("7: pointer ahead of the error", x.at(1), 5);
        x.input(1);
        Check.due("7: error again", x.run(0), 13);
        Check.due("7: through", x.count(3), 1);
        x = Check.built("(car 5)");
        x.run(1);
        Check.due("7: nothing ahead of any", x.at(0), 0);
        x = Check.built("1 (define a 2)");
        x.run(1);
        Check.due("7: nothing of a define", x.at(0), 0);
    }

    private static void output() {
        BracketTongue x = Check.worked("(emit 5) (emit -6) (emit 0)", 0);
        Check.due("8: first", x.output(0), 5);
        Check.due("8: second", x.output(1), -6);
        Check.due("8: none such", x.output(3), 0);
        for (int i : EXTREMES) {
            Check.due("8: output(" + i + ")", x.output(i), i == 1 ? -6 : 0);
        }
        x.clear();
        Check.due("8: cleared", x.output(0), 0);
    }

    private static void clear() {
        BracketTongue x = new BracketTongue();
        Check.due("9: new", x.clear(), 0);
        Check.build(x, "(emit 5) (emit 6) (read) (emit 7)");
        x.run(0);
        Check.due("9: two", x.clear(), 2);
        Check.due("9: none", x.clear(), 0);
        Check.due("9: count", x.count(7), 0);
        x.input(1);
        x.run(0);
        Check.due("9: from 0 on", x.output(0), 7);
        Check.due("9: one", x.clear(), 1);
    }

    private static void global() {
        BracketTongue x = new BracketTongue();
        Check.due("10: without a program", x.global(0), false);
        Check.build(x, "b (define a 1) (define b 2) (define a 3) (define car-of car)");
        Check.due("10: nothing yet", x.global(2), true);
        Check.due("10: at nothing", x.at(0), 0);
        Check.build(x, "(define a 1) (define b 2) (define a 3) (define c car)");
        Check.due("10: three", x.count(4), 3);
        x.run(0);
        Check.due("10: the first", x.global(0), true);
        Check.due("10: its latest value", x.at(1), 3);
        Check.due("10: the second", x.global(1), true);
        Check.due("10: its value", x.at(1), 2);
        Check.due("10: the third", x.global(2), true);
        Check.due("10: a primitive", x.at(0), 8);
        Check.due("10: none such", x.global(3), false);
        Check.due("10: it stays", x.at(0), 8);
        for (int i : EXTREMES) {
            Check.due("10: global(" + i + ")", x.global(i), i == 2);
        }
        x = Check.built("(lambda () z) (define y 1) (define z 2)");
        x.run(0);
        x.global(0);
        Check.due("10: as they are defined, not as they are met otherwise", x.at(1), 1);
    }

    private static void go() {
        BracketTongue x = new BracketTongue();
        Check.due("11: new", x.go(0), false);
        Check.build(x, "(define p '((1 2) a)) p");
        x.run(0);
        for (int i : EXTREMES) {
            Check.due("11: go(" + i + ")", x.go(i), false);
        }
        Check.due("11: it stays", x.at(0), 6);
        Check.due("11: second", x.go(1), true);
        Check.due("11: first of it", x.go(0), true);
        Check.due("11: a name", x.at(0), 5);
        Check.due("11: no pair", x.go(0), false);
        Check.due("11: no pair", x.go(1), false);
        Check.due("11: it stays at the name", x.at(1), 3);
        x.global(0);
        x.go(0);
        x.go(1);
        x.go(1);
        Check.due("11: the end of a list", x.at(0), 4);
        Check.due("11: no pair either", x.go(1), false);
    }

    private static void mark() {
        BracketTongue x = Check.worked("(define p (cons 1 2)) (define q (cons 1 2)) p", 0);
        for (int i : EXTREMES) {
            Check.due("12: mark(" + i + ")", x.mark(i), i == 2);
        }
        Check.due("12: mark(4)", x.mark(4), false);
        for (int i = 0; i < 4; i++) {
            Check.due("12: mark(" + i + ")", x.mark(i), true);
        }
        x.global(1);
        Check.due("12: anew", x.mark(1), true);
        Check.due("12: the new one", x.same(1), true);
        Check.due("12: the others stay", x.same(0), false);
        x.global(0);
        Check.due("12: the others", x.same(0) && x.same(2) && x.same(3), true);
        x.run(1);
        Check.due("12: a run does not change it", x.same(3), true);
        x.restart();
        Check.due("12: gone", x.same(0) && x.same(1) && x.same(2) && x.same(3), true);
        x = new BracketTongue();
        Check.due("12: new", x.mark(0), true);
    }

    private static void same() {
        BracketTongue x = new BracketTongue();
        Check.due("13: nothing as it begins", x.same(0) && x.same(1) && x.same(2) && x.same(3), true);
        for (int i : EXTREMES) {
            Check.due("13: same(" + i + ")", x.same(i), i == 2);
        }
        Check.due("13: same(4)", x.same(4), false);
        Check.build(x, "(define a '(1 1 #t #f #t x x () (2) (2))) (define f (lambda () 1)) (define g f) (define c car)");
        x.run(0);
        eachSame(x, 0, 1, true);
        eachSame(x, 2, 3, false);
        eachSame(x, 2, 4, true);
        eachSame(x, 5, 6, true);
        eachSame(x, 0, 5, false);
        eachSame(x, 3, 7, false);
        eachSame(x, 8, 8, true);
        eachSame(x, 8, 9, false);
        x.global(1);
        x.mark(0);
        x.global(2);
        Check.due("13: the same procedure", x.same(0), true);
        x.global(3);
        Check.due("13: another", x.same(0), false);
        Check.due("13: not nothing", x.same(3), false);
    }

    private static void eachSame(BracketTongue x, int one, int other, boolean due) {
        goTo(x, one);
        x.mark(0);
        goTo(x, other);
        Check.due("13: " + one + " and " + other, x.same(0), due);
    }

    private static void goTo(BracketTongue x, int part) {
        x.global(0);
        for (int i = 0; i < part; i++) {
            x.go(1);
        }
        x.go(0);
    }

    private static void at() {
        String[] texts = {"(define a 1)", "-1", "#f", "#t", "'()", "'z", "(cons 1 2)", "(lambda (a b c) 1)", "cons"};
        int[] numbers = {0, -1, 0, 0, 0, 1, 0, 3, 2};
        for (int kind = 0; kind < texts.length; kind++) {
            BracketTongue x = Check.worked(texts[kind], 0);
            Check.due("14: kind of " + texts[kind], x.at(0), kind);
            Check.due("14: number of " + texts[kind], x.at(1), numbers[kind]);
            for (int what : EXTREMES) {
                Check.due("14: at(" + what + ")", x.at(what), -1);
            }
        }
        String[] primitives = {"read", "car", "cdr", "pair?", "null?", "integer?", "procedure?", "not", "emit", "cons",
            "set-car!", "set-cdr!", "eq?", "+", "-", "*", "quotient", "remainder", "=", "<"};
        for (int i = 0; i < primitives.length; i++) {
            BracketTongue x = Check.worked(primitives[i], 0);
            Check.due("14: a primitive", x.at(0), 8);
            Check.due("14: what " + primitives[i] + " gets", x.at(1), i == 0 ? 0 : i < 9 ? 1 : 2);
        }
        Check.due("14: a procedure of none", Check.worked("(lambda () 1)", 0).at(1), 0);
        Check.due("14: a procedure of eight", Check.worked("(lambda (a b c d e f g h) 1)", 0).at(1), 8);
        Check.due("14: the second of two lambdas", Check.worked("(define f (lambda (x) x)) (lambda (a b) a)", 0).at(1), 2);
        BracketTongue x = Check.worked("(define f (lambda (x) x)) 'x", 0);
        Check.build(x, "(define q q");
        Check.due("14: the number of a name behind a fault", x.at(1), 3);
        x.global(0);
        Check.due("14: a procedure behind a fault", x.at(1), 1);
    }

    private static void count() {
        BracketTongue x = new BracketTongue();
        x.feed(0, 0, 0, 0, 0);
        Check.due("15: tape", x.count(0), 20);
        Check.due("15: no program", x.count(1), 0);
        x.build(20);
        Check.due("15: no program with a fault", x.count(1), 0);
        Check.due("15: no forms with a fault", x.count(2), 0);
        Check.build(x, "(define f (lambda (n) (if (= n 0) (begin (emit n) (read)) (+ 1 (f (- n 1)))))) (define g 1)"
                + "(let ((k 2)) (lambda () k)) (f 3) 5");
        x.input(10);
        x.input(11);
        int[] before = {0, 1, 5, 0, 2, 2, 2, 0, 0, 0, 0, -1};
        all(x, "15: before: ", before);
        x.run(3);
        int[] during = {0, 1, 5, 3, 2, 2, 2, 0, 3, 3, 3, 1};
        all(x, "15: during: ", during);
        x.run(1);
        int[] behind = {0, 1, 5, 5, 2, 2, 1, 1, 3, 0, 4, 0};
        all(x, "15: behind: ", behind);
        for (int what : EXTREMES) {
            Check.due("15: count(" + what + ")", x.count(what), what == 2 ? 5 : -1);
        }
    }

    private static void all(BracketTongue x, String who, int[] due) {
        for (int what = 0; what < due.length; what++) {
            Check.due(who + "count(" + what + ")", x.count(what), due[what]);
        }
    }

    private static void objectsAreApart() {
        BracketTongue x = Check.built("(define a (cons 1 2)) a");
        BracketTongue y = Check.built("(define a (cons 3 4)) a");
        x.run(0);
        y.run(0);
        x.go(0);
        y.go(1);
        Check.due("one object", x.at(1), 1);
        Check.due("another", y.at(1), 4);
    }
}
