/** Terms 2: VALUES, PRIMITIVES, ERRORS, STEPS and RUNS. */
public final class WorkTest {
    public static void main(String[] args) {
        plainValues();
        conditions();
        bindings();
        assignments();
        order();
        arithmetic();
        pairs();
        sameness();
        samenessHoweverMade();
        kindsAsked();
        errorsOfCalls();
        errorsOfKinds();
        errorsOfNothingYet();
        cells();
        cellsOfProcedures();
        roomOfCells();
        deep();
        lastPlaces();
        noLastPlaces();
        stepsAndErrors();
        heldUp();
        quotedData();
        largeBodies();
        Check.end("WorkTest");
    }

    private static void plainValues() {
        Check.kind("", 0);
        Check.kind("#f", 2);
        Check.kind("#t", 3);
        Check.kind("'()", 4);
        Check.kind("(quote ())", 4);
        Check.kind("'a", 5);
        Check.kind("'(1)", 6);
        Check.kind("(lambda () 1)", 7);
        Check.kind("car", 8);
        Check.kind("(define a 1)", 0);
        Check.kind("(define a 1) (set! a 2)", 0);
        Check.kind("(emit 1)", 0);
        Check.kind("(set-car! (cons 1 2) 3)", 0);
        Check.kind("(set-cdr! (cons 1 2) 3)", 0);
        Check.kind("''()", 6);
    }

    private static void conditions() {
        Check.integer("(if #f 1 2)", 2);
        Check.integer("(if #t 1 2)", 1);
        Check.integer("(if 0 1 2)", 1);
        Check.integer("(if '() 1 2)", 1);
        Check.integer("(if (emit 1) 1 2)", 1);
        Check.integer("(and 1 2 3)", 3);
        Check.kind("(and 1 #f (car 1))", 2);
        Check.integer("(and 5)", 5);
        Check.kind("(and 1 #f)", 2);
        Check.integer("(or #f 2 (car 1))", 2);
        Check.kind("(or #f #f)", 2);
        Check.integer("(or #f 7)", 7);
        Check.kind("(or '() 7)", 4);
        Check.kind("(and (emit 1) (emit 2))", 0);
        Check.integer("(+ (and 1 2) (or #f 3))", 5);
        Check.integer("(+ 1 (if (< 1 2) (begin 1 2 3) 9))", 4);
    }

    private static void bindings() {
        Check.integer("(let ((a 1) (b 2)) (+ a b))", 3);
        Check.integer("(let ((a 1)) (let ((a 2) (b a)) (+ (* 10 a) b)))", 21);
        Check.integer("(let () 4)", 4);
        Check.integer("(letrec ((a 1) (b (+ a 1))) (+ a b))", 3);
        Check.integer("(letrec ((f (lambda (n) (if (= n 0) 1 (* n (f (- n 1))))))) (f 5))", 120);
        Check.integer("(letrec () 4)", 4);
        Check.integer("((lambda (a b c d e f g h) (+ a (* 10 h))) 1 2 3 4 5 6 7 8)", 81);
        Check.integer("(define a 5) (let ((a 6)) a)", 6);
        Check.integer("(define a 5) (let ((a 6)) a) a", 5);
        Check.integer("(+ 1 (let ((a 2) (b 3)) (let ((c 4)) (+ (* a b) c))))", 11);
        Check.integer("(define f (lambda (a) (+ a 1))) (define a 10) (f a)", 11);
        Check.integer("(let ((a (emit 1))) (if (eq? a (emit 2)) 1 2))", 1);
        Check.integer("(define a 1) (define a (+ a 1)) (define a (* a 5)) a", 10);
        Check.integer("(define f (let ((car-of car)) (lambda (p) (car-of p)))) (f '(8))", 8);
    }

    private static void assignments() {
        Check.integer("(define a 1) (set! a (+ a 4)) a", 5);
        Check.integer("(define c (let ((n 0)) (lambda () (set! n (+ n 1)) n))) (c) (c) (c)", 3);
        Check.integer("(define m (lambda (n) (lambda () (set! n (+ n 1)) n))) (define a (m 0)) (define b (m 10)) (a) (a) (b) (+ (* 100 (a)) (b))", 312);
        String shared = "(define p (let ((n 1)) (cons (lambda () n) (lambda (v) (set! n v)))))";
        Check.integer(shared + "((cdr p) 7) ((car p))", 7);
        Check.integer("(let ((n 1)) (let ((f (lambda () n))) (set! n 5) (f)))", 5);
        Check.integer("(let ((n 1)) (let ((f (lambda () (set! n 8)))) (f) n))", 8);
        Check.integer("((lambda (n) (let ((f (lambda () (lambda () (set! n (+ n 1)))))) ((f)) ((f)) n)) 1)", 3);
        Check.integer("(define k #f) (define f (lambda (n) (if (= n 3) (set! k (lambda () n)) 0) (if (= n 0) (k) (f (- n 1))))) (f 5)", 3);
        Check.integer("(letrec ((a 1) (f (lambda () a))) (set! a 2) (f))", 2);
        Check.integer("(letrec ((f (lambda () a)) (a 4)) (f))", 4);
    }

    private static void order() {
        outputs("((begin (emit 1) cons) (emit 2) (emit 3))", 0, 1, 2, 3);
        outputs("(let ((a (emit 1)) (b (emit 2))) (emit 3))", 0, 1, 2, 3);
        outputs("(letrec ((a (emit 1)) (b (emit 2))) (emit 3) (emit 4))", 0, 1, 2, 3, 4);
        outputs("(define a (emit 1)) (set! a (emit 2)) (if (emit 3) (emit 4) (emit 5))", 0, 1, 2, 3, 4);
        outputs("(5 (emit 1) (emit 2))", 11, 1, 2);
        outputs("(car (emit 1) (emit 2))", 12, 1, 2);
        outputs("((lambda (a) (emit 9)) (emit 1) (emit 2))", 12, 1, 2);
        outputs("(+ (emit 1) (emit 2))", 13, 1, 2);
        outputs("(begin (emit 1) (car 1) (emit 2)) (emit 3)", 13, 1);
        outputs("(or #f (emit 1) (emit 2)) (and (emit 3) #f (emit 4))", 0, 1, 3);
    }

    private static void outputs(String text, int answer, int... due) {
        BracketTongue x = Check.worked(text, answer);
        Check.due("outputs of " + text, x.count(7), due.length);
        for (int i = 0; i < due.length; i++) {
            Check.due("output " + i + " of " + text, x.output(i), due[i]);
        }
    }

    private static void arithmetic() {
        Check.integer("(+ 2147483647 1)", Integer.MIN_VALUE);
        Check.integer("(- -2147483648 1)", Integer.MAX_VALUE);
        Check.integer("(* 65536 65536)", 0);
        Check.integer("(* 2147483647 2147483647)", 1);
        Check.integer("(quotient 7 2)", 3);
        Check.integer("(quotient -7 2)", -3);
        Check.integer("(quotient 7 -2)", -3);
        Check.integer("(quotient -2147483648 -1)", Integer.MIN_VALUE);
        Check.integer("(remainder 7 2)", 1);
        Check.integer("(remainder -7 2)", -1);
        Check.integer("(remainder 7 -2)", 1);
        Check.integer("(remainder -2147483648 -1)", 0);
        Check.kind("(= 3 3)", 3);
        Check.kind("(= 3 4)", 2);
        Check.kind("(< 3 4)", 3);
        Check.kind("(< 4 4)", 2);
        Check.kind("(< 2147483647 -2147483648)", 2);
    }

    private static void pairs() {
        Check.integer("(car (cons 1 2))", 1);
        Check.integer("(cdr (cons 1 2))", 2);
        Check.integer("(define p (cons 1 2)) (set-car! p 3) (car p)", 3);
        Check.integer("(define p (cons 1 2)) (set-cdr! p 3) (cdr p)", 3);
        Check.integer("(define p (cons 1 2)) (set-cdr! p p) (car (cdr (cdr (cdr p))))", 1);
        Check.kind("(cdr (cdr '(1 2)))", 4);
        Check.integer("(car (cdr '(1 2)))", 2);
        Check.integer("(define p '(1 2)) (set-car! (cdr p) p) (car (car (cdr p)))", 1);
    }

    private static void sameness() {
        String[] yes = {"1 1", "#t #t", "#f #f", "'() '()", "'a 'a", "car car", "(emit 1) (set-car! (cons 1 1) 2)",
            "(quote car) 'car", "-0 0", "(car '(a)) 'a"};
        for (String two : yes) {
            Check.kind("(eq? " + two + ")", 3);
        }
        String[] no = {"1 2", "#t #f", "'() #f", "'a 'b", "car cdr", "'(1) '(1)", "(cons 1 2) (cons 1 2)",
            "(lambda () 1) (lambda () 1)", "0 #f", "0 '()", "'car car", "(emit 1) '()", "1 (emit 0)"};
        for (String two : no) {
            Check.kind("(eq? " + two + ")", 2);
        }
        Check.kind("(let ((p '(1))) (eq? p p))", 3);
        Check.kind("(let ((p (lambda () 1))) (eq? p p))", 3);
        Check.kind("(define f (lambda () '(1))) (eq? (f) (f))", 3);
        Check.kind("(define f (lambda () (lambda () 1))) (eq? (f) (f))", 2);
    }

    /** All but PAIRS and PROCEDURES are the same by what they are, however they were made. */
    private static void samenessHoweverMade() {
        String[][] groups = {
            {"#t", "'#t", "(= 1 1)", "(< 1 2)", "(pair? '(1))", "(null? '())", "(integer? 1)", "(procedure? car)",
                "(not #f)", "(eq? 1 1)", "(car '(#t))", "(and 1 #t)"},
            {"#f", "'#f", "(= 1 2)", "(< 2 1)", "(pair? 1)", "(null? 1)", "(integer? #f)", "(procedure? 1)", "(not 1)",
                "(eq? 1 2)", "(or #f #f)", "(and #f 1)"},
            {"'()", "(quote ())", "(cdr '(1))", "(cdr (cons 1 '()))", "(car '(()))"},
            {"0", "-0", "'0", "(- 1 1)", "(* 0 5)", "(quotient 1 2)", "(remainder 4 2)", "g"},
            {"1", "(car '(1))", "(- 0 -1)", "(remainder 7 -2)"},
            {"-2147483648", "(quotient -2147483648 -1)", "(+ 2147483647 1)", "(* -2147483648 -1)"},
            {"'a", "(quote a)", "(car '(a))", "(car (cdr ''a))"},
            {"'quote", "(car ''a)"},
            {"'car"},
            {"car", "(let ((x car)) x)", "(if #t car cdr)"},
            {"cdr"},
            {"(emit 1)", "(set! g 0)", "(set-car! (cons 1 2) 3)", "(set-cdr! (cons 1 2) 3)", "((lambda () (emit 2)))"},
        };
        for (int i = 0; i < groups.length; i++) {
            for (int j = 0; j < groups.length; j++) {
                sameOrNot(groups[i], groups[j], i == j);
            }
        }
    }

    private static void sameOrNot(String[] ones, String[] others, boolean due) {
        for (String one : ones) {
            for (String other : others) {
                BracketTongue x = Check.worked("(define g 0)(define x " + one + ")(define y " + other + ")(eq? x y)", 0);
                Check.due("eq? of " + one + " and " + other, x.at(0), due ? 3 : 2);
                Check.due("x and y are there", x.global(1) && x.mark(0) && x.global(2), true);
                Check.due("same for " + one + " and " + other, x.same(0), due);
            }
        }
    }

    private static void kindsAsked() {
        String[] values = {"1", "#t", "#f", "'()", "'a", "'(1)", "(lambda () 1)", "car", "(emit 1)"};
        for (int i = 0; i < values.length; i++) {
            Check.kind("(pair? " + values[i] + ")", i == 5 ? 3 : 2);
            Check.kind("(null? " + values[i] + ")", i == 3 ? 3 : 2);
            Check.kind("(integer? " + values[i] + ")", i == 0 ? 3 : 2);
            Check.kind("(procedure? " + values[i] + ")", i == 6 || i == 7 ? 3 : 2);
            Check.kind("(not " + values[i] + ")", i == 2 ? 3 : 2);
        }
    }

    private static void errorsOfCalls() {
        String[] none = {"1", "#t", "#f", "'()", "'a", "'(1)", "(emit 1)"};
        for (String called : none) {
            Check.worked("(" + called + ")", 11);
            Check.worked("(" + called + " 1 2)", 11);
        }
        Check.worked("((lambda () 1) 1)", 12);
        Check.worked("((lambda (a) 1))", 12);
        Check.worked("((lambda (a b) 1) 1)", 12);
        Check.worked("((lambda (a b) 1) 1 2 3)", 12);
        String[] one = {"car", "cdr", "pair?", "null?", "integer?", "procedure?", "not", "emit"};
        for (String called : one) {
            Check.worked("(" + called + ")", 12);
            Check.worked("(" + called + " 1 2)", 12);
        }
        String[] two = {"cons", "set-car!", "set-cdr!", "eq?", "+", "-", "*", "quotient", "remainder", "=", "<"};
        for (String called : two) {
            Check.worked("(" + called + ")", 12);
            Check.worked("(" + called + " 1)", 12);
            Check.worked("(" + called + " 1 2 3)", 12);
        }
        Check.worked("(read 1)", 12);
    }

    private static void errorsOfKinds() {
        String[] noIntegers = {"#t", "#f", "'()", "'a", "'(1)", "(lambda () 1)", "car", "(emit 1)"};
        String[] two = {"+", "-", "*", "quotient", "remainder", "=", "<"};
        for (String wrong : noIntegers) {
            for (String called : two) {
                Check.worked("(" + called + " 1 " + wrong + ")", 13);
                Check.worked("(" + called + " " + wrong + " 0)", 13);
            }
            Check.worked("(emit " + wrong + ")", 13);
        }
        String[] noPairs = {"1", "#t", "#f", "'()", "'a", "(lambda () 1)", "car", "(emit 1)"};
        for (String wrong : noPairs) {
            Check.worked("(car " + wrong + ")", 13);
            Check.worked("(cdr " + wrong + ")", 13);
            Check.worked("(set-car! " + wrong + " '(1))", 13);
            Check.worked("(set-cdr! " + wrong + " '(1))", 13);
        }
        Check.worked("(quotient 1 0)", 14);
        Check.worked("(remainder 1 0)", 14);
        Check.worked("(quotient -2147483648 0)", 14);
    }

    private static void errorsOfNothingYet() {
        Check.worked("a (define a 1)", 15);
        Check.worked("(define a a)", 15);
        Check.worked("(set! a 1) (define a 1)", 15);
        Check.worked("(set! a (car 1)) (define a 1)", 13);
        Check.worked("(letrec ((a a)) 1)", 15);
        Check.worked("(letrec ((a b) (b 1)) 1)", 15);
        Check.worked("(letrec ((a (set! a 1))) 1)", 15);
        Check.worked("(letrec ((a (set! b 1)) (b 1)) 1)", 15);
        Check.worked("(letrec ((f (lambda () a)) (b (f)) (a 1)) 1)", 15);
        Check.worked("(letrec ((f (lambda () (set! a 1))) (b (f)) (a 1)) 1)", 15);
        Check.worked("(define f (lambda () a)) (f) (define a 1)", 15);
        Check.worked("(define f (lambda () a)) (define a 1) (f)", 0);
        Check.worked("(a) (define a car)", 15);
        // Each time it is worked, a letrec binds anew.
        Check.worked("(define f (lambda (n) (letrec ((a (if (= n 0) a 1)) (k (lambda () a))) (if (= n 0) a (f 0))))) (f 1)", 15);
    }

    private static void cells() {
        cellsOf("'(1 2 3)", 0);
        cellsOf("(cons 1 (cons 2 3))", 2);
        cellsOf("(lambda (a) a)", 1);
        cellsOf("(define f (lambda (a) (f a))) f", 1);
        cellsOf("(let ((a 1)) (lambda () a))", 2);
        cellsOf("(let ((a 1)) (lambda () 'a))", 1);
        cellsOf("(let ((a 1) (b 2)) (lambda () a b a))", 3);
        cellsOf("(let ((a 1)) (lambda (a) a))", 1);
        cellsOf("(let ((a 1)) (lambda () (let ((a 2)) a)))", 1);
        cellsOf("(let ((a 1)) (lambda () (let ((a a)) a)))", 2);
        cellsOf("(let ((a 1)) (lambda () (letrec ((a a)) a)))", 1);
        cellsOf("(let ((a 1)) (lambda () (set! a 2)))", 2);
        cellsOf("(let ((a 1)) (lambda () (lambda () a)))", 2);
        cellsOf("(let ((a 1)) ((lambda () (lambda () a))))", 4);
        cellsOf("(define g 1) (let ((a 1)) (lambda () (+ g a)))", 2);
        cellsOf("(define a 1) (let ((a 1)) (lambda () a))", 2);
        cellsOf("(letrec ((f (lambda () (f)))) f)", 2);
        cellsOf("(let ((a 1)) (lambda (b) (lambda (c) (+ a (+ b c)))))", 2);
        cellsOf("((let ((a 1)) (lambda (b) (lambda (c) (+ a (+ b c))))) 5)", 5);
        cellsOf("(let ((x 1)) (cons x 1) (if #f (lambda () x) 2))", 1);
        cellsOf("(car 1)", 0);
        cellsOf("(let ((a 1) (b 2)) (cons (lambda () a) (lambda () b)))", 5);
        cellsOf("(let ((a 1) (b 2)) (lambda () a) (lambda () b) (lambda () 1))", 5);
        cellsOf("(let ((a 1) (b 2)) (lambda () (lambda () a) (lambda () b)) (lambda () (lambda () b)))", 5);
    }

    private static void cellsOf(String text, int cells) {
        BracketTongue x = Check.built(text);
        x.run(100);
        Check.due("count(8) of " + text, x.count(8), cells);
    }

    private static void cellsOfProcedures() {
        // Bindings that nothing keeps cost no room, however many there are.
        String text = "(define f (lambda (n) (letrec ((a n) (b 2) (c 3)) (if #f (lambda () a b c) (f (+ n b)))))) (f 0)";
        BracketTongue x = Check.built(text);
        for (int i = 0; i < 20; i++) {
            Check.due("run of a loop with bindings", x.run(20000), 1);
        }
        Check.due("its CELLS", x.count(8), 1);
        Check.due("its STEPS", x.count(10), 400000);
    }

    private static void roomOfCells() {
        BracketTongue x = Check.built("(define l '()) (define f (lambda () (set! l (cons 1 l)) (f))) (f)");
        Check.due("run to 20000 cells", x.run(20000), 1);
        Check.due("cells", x.count(8), 20001);
        Check.due("run to the last cell", x.run(19999), 1);
        Check.due("cells at the most", x.count(8), 40000);
        Check.due("one more", x.run(1), 16);
        Check.due("cells after the error", x.count(8), 40000);
        Check.due("steps", x.count(10), 40000);
        Check.due("again", x.run(1), 16);
        x.global(0);
        int length = 0;
        while (length < 400 && x.go(1)) {
            length++;
        }
        Check.due("the list is long", length, 400);

        // A procedure with two kept ones takes three: 1 + 13332 * 3 = 39997, then 40000, then no more.
        x = Check.built("(define f (lambda (a b) (lambda () (+ a b)) (f (+ a 1) b))) (f 0 0)");
        Check.due("run with procedures", x.run(20000), 16);
        Check.due("cells with procedures", x.count(8), 40000);
        Check.due("steps with procedures", x.count(10), 13334);
        x = Check.built("(cons 1 1) (define f (lambda (a b) (lambda () (+ a b)) (f (+ a 1) b))) (f 0 0)");
        Check.due("run with one pair more", x.run(20000), 16);
        Check.due("two cells are too few", x.count(8), 39998);
        Check.due("restart", x.restart(), true);
        Check.due("no cells then", x.count(8), 0);
    }

    private static void deep() {
        String down = "(define f (lambda (n) (if (= n 0) 0 (+ 1 (f (- n 1))))))";
        Check.integer(down + "(f 999)", 999);
        BracketTongue x = Check.worked(down + "(f 1000)", 17);
        Check.due("open at the error", x.count(9), 1000);
        Check.due("steps at the error", x.count(10), 1000);
        x = Check.built(down + "(f 1000)");
        Check.due("one call less", x.run(999), 1);
        Check.due("the error comes ahead of a step that would be too many", x.run(1), 17);
        // Asked in this order: 1, 2, 7.
        Check.worked("(define f (lambda (n) (+ 1 (if (= n 1) (5) (f (- n 1)))))) (f 1000)", 11);
        Check.worked("(define f (lambda (n) (+ 1 (if (= n 1) (f) (f (- n 1)))))) (f 1000)", 12);
        Check.worked("(define f (lambda (n) (+ 1 (if (= n 1) (car 1) (f (- n 1)))))) (f 1000)", 13);
        Check.integer("(define g (lambda (n) (if (= n 0) 5 (g (- n 1))))) (define f (lambda (n) (if (= n 1) (g 5) (+ 0 (f (- n 1)))))) (f 1000)", 5);
        Check.worked("(define f (lambda (n) (+ 0 (f (+ n 1))))) (f 0)", 17);
    }

    private static void lastPlaces() {
        String[] bodies = {
            "(if (= n 0) 7 (f (- n 1)))",
            "(if (< 0 n) (f (- n 1)) 7)",
            "(begin 1 2 (if (= n 0) 7 (f (- n 1))))",
            "1 (let ((m (- n 1))) 2 (if (= n 0) 7 (f m)))",
            "(letrec ((m (- n 1)) (k 2)) (if (= n 0) 7 (f m)))",
            "(and 1 (or #f (if (= n 0) 7 (f (- n 1)))))",
            "(or (and (= n 0) 7) (f (- n 1)))",
            "(let ((g (lambda () (f (- n 1))))) (if (= n 0) 7 (g)))",
            "(let ((k (lambda () n))) (let ((m (- (k) 1))) (if (= n 0) 7 (let () (f m)))))",
            "((lambda (m) (if (= m 0) 7 (f (- m 1)))) n)",
        };
        for (String body : bodies) {
            Check.integer("(define f (lambda (n) " + body + ")) (f 3000)", 7);
        }
        BracketTongue x = Check.built("(define f (lambda (a) (g a 1))) (define g (lambda (a b) (f (+ a b)))) (f 1)");
        x.run(777);
        Check.due("open with calls in last place", x.count(9), 1);
        Check.due("steps with calls in last place", x.count(10), 777);
    }

    private static void noLastPlaces() {
        String[] bodies = {"(+ 0 (f n))", "(begin (f n) 1)", "(let ((a (f n))) a)", "(letrec ((a (f n))) a)",
            "(if (f n) 1 2)", "(and (f n) 1)", "(or (f n) 1)", "(f n) 1", "(set! n (f n))", "((f n))", "(car (f n))"};
        for (String body : bodies) {
            BracketTongue x = Check.worked("(define f (lambda (n) " + body + ")) (f 3000)", 17);
            Check.due("open with " + body, x.count(9), 1000);
        }
        BracketTongue x = Check.built("(define f (lambda () (f))) (begin (f))");
        x.run(5);
        Check.due("open of a call of the row", x.count(9), 1);
    }

    private static void stepsAndErrors() {
        BracketTongue x = Check.built("((lambda () 1)) (5)");
        Check.due("run(0)", x.run(0), 1);
        Check.due("run(1), an error comes ahead of a step", x.run(1), 11);
        x = Check.built("(define f (lambda (a) a)) (f)");
        Check.due("run(0) with error 2", x.run(0), 12);
        x = Check.built("(define f (lambda (a) a)) (f (f (f 1)))");
        Check.due("run(0)", x.run(0), 1);
        Check.due("run(1)", x.run(1), 1);
        Check.due("run(2)", x.run(2), 0);
        Check.due("steps", x.count(10), 3);
        x = Check.built("(car '(1)) (+ 1 2)");
        Check.due("no step is no call of a primitive", x.run(0), 0);
        Check.due("steps", x.count(10), 0);
    }

    private static void heldUp() {
        BracketTongue x = Check.built("(define f (lambda (n) (let ((v (read))) (if (= v 0) n (f (+ n v)))))) (f 0)");
        Check.due("run", x.run(10), 2);
        Check.due("open", x.count(9), 1);
        x.input(5);
        x.input(6);
        Check.due("run(1)", x.run(1), 1);
        Check.due("inputs", x.count(6), 0);
        Check.due("run(0)", x.run(0), 1);
        Check.due("run(2)", x.run(2), 2);
        x.input(0);
        Check.due("run(0) at the end", x.run(0), 0);
        Check.due("the sum", x.at(1), 11);

        x = Check.built("(define f (lambda (n) (emit n) (f (+ n 1)))) (f 0)");
        Check.due("run to full outputs", x.run(20000), 3);
        Check.due("outputs", x.count(7), 1000);
        Check.due("held", x.run(20000), 3);
        Check.due("steps", x.count(10), 1001);
        Check.due("clear", x.clear(), 1000);
        Check.due("on", x.run(3), 1);
        Check.due("first output then", x.output(0), 1000);
        Check.due("outputs then", x.count(7), 4);
        // What is wrong is wrong with full outputs too.
        Check.worked("(define f (lambda (n) (if (= n 0) 0 (begin (emit n) (f (- n 1)))))) (f 1000) (emit #t)", 13);
        Check.worked("(define f (lambda (n) (if (= n 0) 0 (begin (emit n) (f (- n 1)))))) (f 1000) (emit)", 12);
        // A call of read in last place.
        x = Check.built("(define f (lambda () (read))) (+ (f) (f))");
        Check.due("run", x.run(9), 2);
        x.input(30);
        Check.due("run", x.run(9), 2);
        x.input(12);
        Check.due("run", x.run(9), 0);
        Check.due("sum", x.at(1), 42);
    }

    private static void quotedData() {
        String text = "(define f (lambda () '(1 2))) (set-car! (f) (+ (car (f)) 1)) (car (f))";
        BracketTongue x = Check.built(text);
        for (int i = 0; i < 3; i++) {
            Check.due("run", x.run(9), 0);
            Check.due("the changed datum", x.at(1), 2);
            Check.due("made anew", x.restart(), true);
        }
        Check.integer("(car (cdr (car (cdr '(1 (2 3) 4)))))", 3);
        Check.integer("(define a '(1 2)) (define b '(1 2)) (set-car! a 9) (car b)", 1);
        Check.kind("(car '(#t))", 3);
        Check.kind("(car '(()))", 4);
        Check.kind("(car ''a)", 5);
        Check.integer("(car (cdr (car '('5))))", 5);
        String deep = Check.times("(", 29) + "7" + Check.times(")", 29);
        x = Check.worked("'" + deep, 0);
        for (int i = 0; i < 29; i++) {
            Check.due("go(0) into nested data", x.go(0), true);
        }
        Check.due("the innermost", x.at(1), 7);
        // The most pairs that a text can have.
        StringBuilder most = new StringBuilder("'(");
        for (int i = 0; i < 103; i++) {
            most.append(Check.times("'", 28)).append("1");
        }
        x = Check.worked(most + ")", 0);
        int length = 0;
        while (length < 9999 && x.go(1)) {
            length++;
        }
        Check.due("its length", length, 103);
    }

    /** Bodies and frames about as large as a text can make them. */
    private static void largeBodies() {
        String call = Check.times("(g 1 1 1 1 1 1 1 ", 25);
        String text = "(define g (lambda (a b c d e f h i) i)) (define f (lambda (n) (if (= n 0) 3 " + call
                + "(f (- n 1))" + Check.times(")", 25) + "))) (f 999)";
        Check.worked(text, 1);
        BracketTongue x = Check.built(text);
        Check.due("steps of large frames", x.run(20000), 1);
        Check.due("and on", x.run(20000), 0);
        Check.due("its value", x.at(1), 3);
        Check.due("its steps", x.count(10), 1000 + 25 * 999);

        String lets = Check.times("(let ((a n)(b n)(c n)(d n)(e n)(f n)(h n)(i n)) ", 24);
        x = Check.built("(define g (lambda (n) " + lets + "(lambda () (+ a i))" + Check.times(")", 24) + ")) ((g 21))");
        Check.due("run of nested lets", x.run(9), 0);
        Check.due("its value", x.at(1), 42);
        Check.due("its cells", x.count(8), 4);

        String lambdas = Check.times("(lambda (a) ", 20) + "(set! z (+ z a))" + Check.times(")", 20);
        x = Check.built("(define f (lambda (z) (cons (lambda () z) " + lambdas + "))) (define p (f 5))"
                + Check.times("(", 20) + "(cdr p)" + Check.times(" 2)", 20) + "((car p))");
        Check.due("run of nested lambdas", x.run(99), 0);
        Check.due("its value", x.at(1), 7);
        Check.due("its cells", x.count(8), 1 + 2 + 1 + 2 + 19 * 2);
    }
}
