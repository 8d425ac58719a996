/** Terms 1, FORMS: the faults 3 to 6 and which of several is told. */
public final class FormsTest {
    public static void main(String[] args) {
        shapes();
        howMany();
        wordsByThemselves();
        defines();
        meanings();
        bindings();
        quotesAreLists();
        firstAlongTheText();
        roomOfDefined();
        roomOfLambdas();
        roomOfForms();
        Check.end("FormsTest");
    }

    private static void shapes() {
        Check.fault("()", 3, 0);
        Check.fault("1 ()", 3, 2);
        Check.fault("(car ())", 3, 5);
        Check.fault("(quote)", 3, 0);
        Check.fault("(quote 1 2)", 3, 0);
        Check.fault("(lambda)", 3, 0);
        Check.fault("(lambda (a))", 3, 0);
        Check.fault("(lambda a a)", 3, 0);
        Check.fault("(lambda 1 1)", 3, 0);
        Check.fault("(lambda (a 1) a)", 3, 0);
        Check.fault("(lambda (a (b)) a)", 3, 0);
        Check.fault("(lambda (#t) 1)", 3, 0);
        Check.fine("(lambda () 1)");
        Check.fault("(if)", 3, 0);
        Check.fault("(if 1 2)", 3, 0);
        Check.fault("(if 1 2 3 4)", 3, 0);
        Check.fault("(let)", 3, 0);
        Check.fault("(let ())", 3, 0);
        Check.fine("(let () 1)");
        Check.fault("(let a 1)", 3, 0);
        Check.fault("(let (a) 1)", 3, 0);
        Check.fault("(let ((a)) 1)", 3, 0);
        Check.fault("(let ((a 1 2)) 1)", 3, 0);
        Check.fault("(let ((1 1)) 1)", 3, 0);
        Check.fault("(let (()) 1)", 3, 0);
        Check.fault("(let (((a) 1)) 1)", 3, 0);
        Check.fault("(letrec ((a 1)))", 3, 0);
        Check.fault("(letrec (a 1) 1)", 3, 0);
        Check.fault("(set! a)", 3, 0);
        Check.fault("(define a 1) (set! a 1 2)", 3, 13);
        Check.fault("(set! 1 2)", 3, 0);
        Check.fault("(set! (a) 2)", 3, 0);
        Check.fault("(begin)", 3, 0);
        Check.fault("(and)", 3, 0);
        Check.fault("(or)", 3, 0);
        Check.fine("(begin 1)(and 1)(or 1)");
    }

    private static void howMany() {
        Check.fine("(lambda (a b c d e f g h) 1)");
        Check.fault("(lambda (a b c d e f g h i) 1)", 3, 0);
        Check.fine("(let ((a 1)(b 1)(c 1)(d 1)(e 1)(f 1)(g 1)(h 1)) 1)");
        Check.fault("(let ((a 1)(b 1)(c 1)(d 1)(e 1)(f 1)(g 1)(h 1)(i 1)) 1)", 3, 0);
        Check.fine("(letrec ((a 1)(b 1)(c 1)(d 1)(e 1)(f 1)(g 1)(h 1)) 1)");
        Check.fault("(letrec ((a 1)(b 1)(c 1)(d 1)(e 1)(f 1)(g 1)(h 1)(i 1)) 1)", 3, 0);
        Check.fine("(1 1 2 3 4 5 6 7 8)");
        Check.fault("(1 1 2 3 4 5 6 7 8 9)", 3, 0);
        Check.fault("(car 1 2 3 4 5 6 7 8 9)", 3, 0);
        Check.fine("(car)");
        Check.fine("(and 1 2 3 4 5 6 7 8 9 10 11)(begin 1 2 3 4 5 6 7 8 9 10 11)(or 1 2 3 4 5 6 7 8 9 10 11)");
    }

    private static void wordsByThemselves() {
        String[] words = {"quote", "lambda", "if", "let", "letrec", "set!", "begin", "and", "or", "define"};
        for (String word : words) {
            Check.fault(word, 3, 0);
            Check.fault("(car " + word + ")", 3, 5);
            Check.fault("(begin 1 " + word + ")", 3, 9);
            Check.fine("'" + word);
        }
        Check.fine("car (car car) (begin read)");
    }

    private static void defines() {
        Check.fine("(define a 1) (define a 2)");
        Check.fault("(define)", 3, 0);
        Check.fault("(define a)", 3, 0);
        Check.fault("(define a 1 2)", 3, 0);
        Check.fault("(define 1 2)", 3, 0);
        Check.fault("(define (f a) a)", 3, 0);
        Check.fault("(begin (define a 1))", 3, 7);
        Check.fault("(define a (define b 1))", 3, 10);
        Check.fault("(lambda () (define a 1) a)", 3, 11);
        Check.fault("((define a 1))", 3, 1);
        // What is no define of the row gives a NAME no meaning.
        Check.fault("a (define a)", 4, 0);
        Check.fault("a (begin (define a 1))", 4, 0);
        // One with a fault within is still one.
        Check.fault("a (define a ())", 3, 12);
        Check.fault("a (define a b)", 4, 12);
    }

    private static void meanings() {
        Check.fault("a", 4, 0);
        Check.fault("(car a)", 4, 5);
        Check.fault("(a)", 4, 1);
        Check.fault("(set! a 1)", 4, 6);
        Check.fine("(lambda () a) (define a 1)");
        Check.fine("(set! a 1) (define a 1)");
        Check.fault("(lambda (a) b)", 4, 12);
        Check.fault("(begin (lambda (a) a) a)", 4, 22);
        Check.fault("(let ((a 1) (b a)) b)", 4, 15);
        Check.fine("(letrec ((a b) (b a)) b)");
        Check.fault("(begin (let ((a 1)) a) a)", 4, 23);
        Check.fault("(begin (letrec ((a 1)) a) a)", 4, 26);
        Check.fine("(lambda (a) (lambda (b) (let ((c a)) (lambda () (set! a (+ b c))))))");
        Check.fine("'a '(a b (c))");
        Check.fault("cadr", 4, 0);
        Check.fault(">", 4, 0);
    }

    private static void bindings() {
        Check.fault("(lambda (a a) a)", 5, 11);
        Check.fault("(lambda (a b a) a)", 5, 13);
        Check.fault("(lambda (car) 1)", 5, 9);
        Check.fault("(lambda (a if) 1)", 5, 11);
        Check.fault("(let ((a 1) (a 2)) a)", 5, 13);
        Check.fault("(let ((read 1)) 1)", 5, 7);
        Check.fault("(letrec ((a 1) (b 2) (a 3)) a)", 5, 22);
        Check.fault("(letrec ((+ 1)) 1)", 5, 10);
        Check.fault("(set! car 1)", 5, 6);
        Check.fault("(set! set! 1)", 5, 6);
        Check.fault("(define < 1)", 5, 8);
        Check.fault("(define define 1)", 5, 8);
        Check.fine("(lambda (a) (lambda (a) (let ((a a)) a)))");
        Check.fine("(define a 1) (let ((a a)) a)");
        Check.fault("(let ((a b) (a 2)) a)", 4, 9);
        Check.fault("(let ((if b)) a)", 5, 7);
    }

    /** ' DATUM is ( quote DATUM ) everywhere. */
    private static void quotesAreLists() {
        Check.fault("(lambda 'a 1)", 5, 8);
        Check.fault("(let ('1) 1)", 5, 6);
        Check.fault("(let 'a 1)", 3, 0);
        Check.fault("(define 'a 1)", 3, 0);
        Check.fault("(set! 'a 1)", 3, 0);
        Check.fine("('a 1)");
        Check.fault("(lambda ('a) 1)", 3, 0);
    }

    private static void firstAlongTheText() {
        Check.fault("(begin a ()) (if)", 4, 7);
        Check.fault("(begin () a)", 3, 7);
        Check.fault("(if a)", 3, 0);
        Check.fault("(lambda (a a) (if))", 5, 11);
        Check.fault("(lambda (a b) (if) (lambda (c c) c))", 3, 14);
        Check.fault("(set! a b)", 4, 6);
        Check.fault("(define car b)", 5, 8);
        Check.fault("(a () ())", 4, 1);
        Check.fault("(let ((a ()) (a 1)) a)", 3, 9);
    }

    private static void roomOfDefined() {
        StringBuilder hundred = new StringBuilder("(define n0 1)");
        for (int i = 0; i < 100; i++) {
            hundred.append("(define n").append(i).append(" n99)");
        }
        Check.fine(hundred.toString());
        Check.fault(hundred + "(define m m)", 6, hundred.length() + 8);
        Check.fault("m " + hundred + "(define m m)", 6, hundred.length() + 10);
        Check.fault(hundred + "(define car m)(define m 1)", 5, hundred.length() + 8);
        Check.fault(hundred + "(begin z)(define m 1)", 4, hundred.length() + 7);
        BracketTongue x = Check.built(hundred.toString());
        Check.due("count(4) with all", x.count(4), 100);
        Check.due("global(99)", x.global(99), true);
        Check.due("global(100)", x.global(100), false);
    }

    private static void roomOfLambdas() {
        String all = Check.times("(lambda () 1)", 120);
        Check.fine(all);
        Check.due("count(5) with all", Check.built(all).count(5), 120);
        Check.fault(all + "(lambda () 1)", 6, all.length());
        Check.fault(all + "(car (lambda (a a) b))", 6, all.length() + 5);
        Check.fault(all + "(lambda () )", 3, all.length());
        Check.fine(all + "'(lambda () 1)");
        String within = Check.times("(lambda () ", 20) + "1" + Check.times(")", 20);
        Check.fine(Check.times(within, 6));
        Check.fault(Check.times(within, 6) + " " + within, 6, 6 * within.length() + 1);
    }

    private static void roomOfForms() {
        String all = Check.times("1(1)", 500);
        Check.fine(all);
        Check.fault(all + "1", 6, 2000);
        Check.fault(all + "'(1 2)", 6, 2000);
        Check.fault(all + "a", 4, 2000);
        Check.fault(all + "()", 3, 2000);
        Check.fault(all + "if", 3, 2000);
        Check.fault(all + "(if 1)", 3, 2000);
        Check.fault(all + "(lambda (a a) 1)", 6, 2000);
        String but = Check.times("1(1)", 499);
        Check.fine(but + "(define a 1)1");
        Check.fault(but + "(define a 1)1 a", 6, but.length() + 14);
        Check.fine(but + "(lambda (b c d) 1)1");
        Check.fault(but + "(lambda (b c d) 1)(1)", 6, but.length() + 19);
        Check.fine(but + "(let ((b 1)) 1)");
        Check.fault(but + "(let ((b 1)) b b)", 6, but.length() + 15);
        Check.fine(but + "'(1 2 3 (4 5))1 1");
        Check.fault(but + "(begin 1 1 1)", 6, but.length() + 11);
        Check.fine("(define a 1)" + Check.times("1(1)", 498) + "(set! a 1)1 1");
        Check.fault("(define a 1)" + Check.times("1(1)", 498) + "(set! a 1)1 1 1", 6, 12 + 498 * 4 + 14);
    }
}
