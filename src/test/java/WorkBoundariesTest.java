/**
 * Terms 2 of the document (VALUES, PRIMITIVES, ERRORS, STEPS and RUNS), sentence by sentence: what each names
 * as too few, too many, empty, full, wrapping around or refused. The words in quotes are the document's.
 */
public final class WorkBoundariesTest {
    private static final String[] OF_ONE = {"car", "cdr", "pair?", "null?", "integer?", "procedure?", "not", "emit"};
    private static final String[] OF_TWO = {
        "cons", "set-car!", "set-cdr!", "eq?", "+", "-", "*", "quotient", "remainder", "=", "<"};
    private static final String[] OF_INTEGERS = {"+", "-", "*", "quotient", "remainder", "=", "<"};
    // One of each kind that at(0) tells, from 0 on.
    private static final String[] KINDS = {
        "(emit 1)", "1", "#f", "#t", "'()", "'a", "'(1)", "(lambda () 1)", "car"};
    private static final String LEAST = "-2147483648";
    private static final String MOST = "2147483647";

    public static void main(String[] args) {
        wrapping();
        nothings();
        truth();
        fromTheLeft();
        letBinding();
        letrecBinding();
        definedAhead();
        andOr();
        bindingsAsTheyAre();
        dataMadeOnce();
        emptyQuote();
        procedures();
        sameness();
        division();
        readsAndEmits();
        notCallable();
        moreOrFewer();
        wrongKinds();
        byZero();
        nothingYet();
        lastCell();
        lastCellsOfProcedures();
        cellsOfProcedures();
        deepest();
        lastPlaces();
        noLastPlaces();
        orderOfErrors();
        errorsEndAll();
        steps();
        stepTooMany();
        inputLacks();
        outputsFull();
        goesOnFromThere();
        Check.end("WorkBoundariesTest");
    }

    private static void outputs(String text, int answer, int... due) {
        BracketTongue x = Check.worked(text, answer);
        Check.due("count(7) of " + Check.shown(text), x.count(7), due.length);
        for (int i = 0; i < due.length; i++) {
            Check.due("output(" + i + ") of " + Check.shown(text), x.output(i), due[i]);
        }
    }

    /** "INTEGERS (of 32 bits, that wrap)". */
    private static void wrapping() {
        Check.sentence("W1 INTEGERS wrap");
        Check.integer("(+ " + MOST + " 1)", Integer.MIN_VALUE);
        Check.integer("(+ " + MOST + " " + MOST + ")", -2);
        Check.integer("(+ " + LEAST + " -1)", Integer.MAX_VALUE);
        Check.integer("(+ " + LEAST + " " + LEAST + ")", 0);
        Check.integer("(- " + LEAST + " 1)", Integer.MAX_VALUE);
        Check.integer("(- 0 " + LEAST + ")", Integer.MIN_VALUE);
        Check.integer("(- " + MOST + " -1)", Integer.MIN_VALUE);
        Check.integer("(* " + LEAST + " -1)", Integer.MIN_VALUE);
        Check.integer("(* " + MOST + " " + MOST + ")", 1);
        Check.integer("(* 65536 32768)", Integer.MIN_VALUE);
        Check.integer("(* 65536 65536)", 0);
        Check.integer("(- (- " + LEAST + " 1) " + MOST + ")", 0);
        Check.kind("(< " + LEAST + " " + MOST + ")", 3);
        Check.kind("(< " + MOST + " " + LEAST + ")", 2);
        Check.kind("(< (+ " + MOST + " 1) 0)", 3);
        Check.kind("(= (+ " + MOST + " 1) " + LEAST + ")", 3);
        Check.kind("(= 0 " + LEAST + ")", 2);
    }

    /** "NOTHING (what define, set! and emit, set-car!, set-cdr! give)". */
    private static void nothings() {
        Check.sentence("W2 what gives NOTHING");
        Check.kind("5 (define a 1)", 0);
        Check.kind("(define a 1) 5 (set! a 1)", 0);
        Check.kind("5 (emit 1)", 0);
        Check.kind("5 (set-car! '(1) 1)", 0);
        Check.kind("5 (set-cdr! '(1) 1)", 0);
        Check.kind("(car (cons (emit 1) 2))", 0);
    }

    /** "All but #f is true." */
    private static void truth() {
        Check.sentence("W3 all but #f is true");
        for (int kind = 0; kind < KINDS.length; kind++) {
            boolean isTrue = kind != 2;
            Check.integer("(if " + KINDS[kind] + " 1 2)", isTrue ? 1 : 2);
            Check.kind("(and " + KINDS[kind] + " #t)", isTrue ? 3 : 2);
            Check.kind("(or " + KINDS[kind] + " #t)", isTrue ? kind : 3);
            Check.kind("(not " + KINDS[kind] + ")", isTrue ? 2 : 3);
        }
        Check.integer("(if 0 1 2)", 1);
    }

    /** "FORMS are worked from the left, in a CALL what is called first, then all that it gets." */
    private static void fromTheLeft() {
        Check.sentence("W4 from the left");
        outputs("((begin (emit 0) cons) (emit 1) (emit 2))", 0, 0, 1, 2);
        outputs("((begin (emit 0) 5) (emit 1) (emit 2))", 11, 0, 1, 2);
        outputs("((begin (emit 0) car) (emit 1) (emit 2))", 12, 0, 1, 2);
        outputs("(quotient (begin (emit 0) 1) (begin (emit 1) 0))", 14, 0, 1);
        outputs("((car 1) (emit 1))", 13);
        outputs("(cons (emit 1) (car 1))", 13, 1);
        outputs("(let ((a (emit 1)) (b (emit 2))) (emit 3) (emit 4))", 0, 1, 2, 3, 4);
        outputs("((lambda (a b c d e f g h) (emit 9)) (emit 1) (emit 2) (emit 3) (emit 4) (emit 5) (emit 6) (emit 7) (emit 8))",
                0, 1, 2, 3, 4, 5, 6, 7, 8, 9);
        outputs("(if (emit 1) (emit 2) (emit 3)) (if #f (emit 4) (emit 5))", 0, 1, 2, 5);
    }

    /** "let: all its FORMS ahead of binding." */
    private static void letBinding() {
        Check.sentence("W5 let: all its FORMS ahead of binding");
        Check.integer("(define a 1) (let ((a 2) (b a)) b)", 1);
        Check.integer("(let ((a 1)) (let ((a (+ a 1)) (b (+ a 5))) (+ (* 10 a) b)))", 26);
        Check.integer("(define a 3) (let ((a a)) (set! a 4) a)", 4);
        Check.integer("(define a 3) (let ((a a)) (set! a 4)) a", 3);
        Check.worked("(define f (lambda () (let ((a a)) a))) (f) (define a 1)", 15);
    }

    /** "letrec: its NAMES are bound ahead, to nothing yet, and get their values one by one". */
    private static void letrecBinding() {
        Check.sentence("W6 letrec: nothing yet, then values one by one");
        Check.worked("(letrec ((a a)) 1)", 15);
        Check.worked("(define a 1) (letrec ((a a)) 1)", 15);
        Check.worked("(letrec ((a b) (b 1)) a)", 15);
        Check.integer("(letrec ((a 1) (b a)) b)", 1);
        Check.integer("(letrec ((a 1) (b (set! a 2)) (c a)) (+ (* 10 a) c))", 22);
        Check.worked("(letrec ((a (lambda () b)) (c (a)) (b 1)) c)", 15);
        Check.integer("(letrec ((a (lambda () b)) (b 1) (c (a))) c)", 1);
        Check.integer("(letrec ((a (lambda () h)) (b 1) (c 1) (d 1) (e 1) (f 1) (g 1) (h 8)) (a))", 8);
        Check.worked("(define f (lambda (n) (letrec ((a (if (= n 0) a (f (- n 1))))) a))) (f 3)", 15);
    }

    /** "so are defined ones ahead of their define". */
    private static void definedAhead() {
        Check.sentence("W7 defined NAMES have nothing ahead of their define");
        Check.worked("a (define a 1)", 15);
        Check.worked("(define a a)", 15);
        Check.worked("(define f (lambda () a)) (f) (define a 1)", 15);
        Check.integer("(define f (lambda () a)) (define a 1) (f)", 1);
        Check.worked("(define a (lambda () (a))) (define b (begin (set! b 1) 1))", 15);
        Check.integer("(define a 1) (define a (+ a 1)) a", 2);
        BracketTongue x = Check.built("(define a 5) (read) (define b a)");
        x.run(0);
        Check.due("global(1)", x.global(1), true);
        Check.due("nothing yet", x.at(0), 0);
    }

    /** "and: #f of the first that is #f, else the last one's value; or: that of the first that is not #f, else #f." */
    private static void andOr() {
        Check.sentence("W8 and, or: of one, the first that ends it, the last");
        Check.integer("(and 1)", 1);
        Check.kind("(and #f)", 2);
        Check.integer("(or 1)", 1);
        Check.kind("(or #f)", 2);
        Check.integer("(and 1 2 3)", 3);
        Check.kind("(and 1 2 #f)", 2);
        Check.kind("(or #f #f #f)", 2);
        // Whichever of many ends it, and the FORM behind is worked then.
        String[] nine = {"1", "2", "3", "4", "5", "6", "7", "8", "9"};
        for (int i = 0; i < nine.length; i++) {
            nine[i] = "#f";
            outputs("(and " + String.join(" ", nine) + ") (emit 1)", 0, 1);
            Check.kind("(and " + String.join(" ", nine) + ")", 2);
            nine[i] = String.valueOf(i + 1);
        }
        for (int i = 0; i < nine.length; i++) {
            String some = Check.times("#f ", i) + "5" + Check.times(" #f", 8 - i);
            outputs("(or " + some + ") (emit 1)", 0, 1);
            Check.integer("(or " + some + ")", 5);
        }
        Check.integer("(or #f #f 3)", 3);
        Check.kind("(and 1 (emit 2))", 0);
        Check.kind("(or #f (emit 2))", 0);
        outputs("(and #f (emit 1)) (or 1 (emit 2)) (and (emit 3) #f (emit 4)) (or #f (emit 5) (emit 6))", 0, 3, 5);
        Check.integer("(+ (and 1 2) (or #f 40))", 42);
        Check.integer("((lambda (a) (and a (or #f a) a)) 7)", 7);
    }

    /** "A PROCEDURE keeps the bindings around it as they are, not their values: set! by one is seen by all." */
    private static void bindingsAsTheyAre() {
        Check.sentence("W9 set! by one is seen by all");
        Check.integer("(let ((a 1)) (let ((f (lambda () a))) (set! a 2) (f)))", 2);
        Check.integer("(let ((a 1)) (let ((f (lambda () (set! a 2)))) (f) a))", 2);
        Check.integer("(define p (let ((a 1)) (cons (lambda () a) (lambda (v) (set! a v))))) ((cdr p) 9) ((car p))", 9);
        Check.integer("(define m (lambda (a) (cons (lambda () a) (lambda (v) (set! a v)))))"
                + "(define p (m 1)) (define q (m 2)) ((cdr p) 9) (+ (* 10 ((car p))) ((car q)))", 92);
        Check.integer("(define f (lambda (a) (lambda () (lambda () (set! a (+ a 1)) a)))) (define g (f 1)) ((g)) ((g)) ((g))", 4);
        Check.integer("(define k 0) (define f (lambda (n) (if (= n 2) (set! k (lambda () n)) 0) (if (= n 0) (k) (f (- n 1))))) (f 3)", 2);
    }

    /** "DATA of a quote are made once, by build() and by each restart()". */
    private static void dataMadeOnce() {
        Check.sentence("W10 DATA of a quote are made once, and anew by restart");
        BracketTongue x = Check.built("(define f (lambda () '(1 2))) (set-car! (f) (+ 1 (car (f)))) (set-cdr! (f) 5) (f)");
        for (int i = 0; i < 3; i++) {
            Check.due("run", x.run(9), 0);
            Check.due("changed once since then", x.go(0), true);
            Check.due("the first", x.at(1), 2);
            Check.due("restart", x.restart(), true);
        }
        Check.kind("(define f (lambda () '(1))) (eq? (f) (f))", 3);
        Check.kind("(eq? '(1) '(1))", 2);
        Check.integer("(define a '(1)) (define b '(1)) (set-car! a 2) (car b)", 1);
        Check.due("no CELLS", Check.worked("'(1 2 (3 4) '5) '(6)", 0).count(8), 0);
    }

    /** "quote of ( ) is the empty LIST". */
    private static void emptyQuote() {
        Check.sentence("W11 quote of ( )");
        Check.kind("'()", 4);
        Check.kind("(quote ( ))", 4);
        Check.kind("(eq? '() (cdr '(1)))", 3);
        Check.kind("(null? '())", 3);
        Check.kind("(pair? '())", 2);
        Check.worked("(car '())", 13);
        Check.worked("(cdr '())", 13);
    }

    /** "procedure? (also of PRIMITIVES)" and the other questions, of each kind. */
    private static void procedures() {
        Check.sentence("W12 pair? null? integer? procedure?");
        for (int kind = 0; kind < KINDS.length; kind++) {
            Check.kind("(pair? " + KINDS[kind] + ")", kind == 6 ? 3 : 2);
            Check.kind("(null? " + KINDS[kind] + ")", kind == 4 ? 3 : 2);
            Check.kind("(integer? " + KINDS[kind] + ")", kind == 1 ? 3 : 2);
            Check.kind("(procedure? " + KINDS[kind] + ")", kind >= 7 ? 3 : 2);
        }
        Check.kind("(procedure? procedure?)", 3);
        Check.kind("(procedure? 'car)", 2);
    }

    /** "eq? (PAIRS, PROCEDURES by being the same one, all else by what it is)". */
    private static void sameness() {
        Check.sentence("W13 eq?");
        for (int one = 0; one < KINDS.length; one++) {
            for (int other = 0; other < KINDS.length; other++) {
                boolean isSame = one == other && one != 6 && one != 7;
                Check.kind("(eq? " + KINDS[one] + " " + KINDS[other] + ")", isSame ? 3 : 2);
            }
            Check.kind("(let ((v " + KINDS[one] + ")) (eq? v v))", 3);
        }
        Check.kind("(eq? " + MOST + " " + MOST + ")", 3);
        Check.kind("(eq? " + LEAST + " (+ " + MOST + " 1))", 3);
        Check.kind("(eq? -1 4)", 2);
        Check.kind("(eq? 0 #f)", 2);
        Check.kind("(eq? 'a 'b)", 2);
        Check.kind("(eq? car cdr)", 2);
        Check.kind("(eq? (cons 1 2) (cons 1 2))", 2);
    }

    /** "quotient remainder (towards 0; the least INTEGER by -1: itself, 0)". */
    private static void division() {
        Check.sentence("W14 towards 0; the least INTEGER by -1");
        int[] signs = {1, -1};
        for (int a : signs) {
            for (int b : signs) {
                Check.integer("(quotient " + 7 * a + " " + 2 * b + ")", 3 * a * b);
                Check.integer("(remainder " + 7 * a + " " + 2 * b + ")", a);
                Check.integer("(quotient " + a + " " + 2 * b + ")", 0);
                Check.integer("(remainder " + a + " " + 2 * b + ")", a);
            }
        }
        Check.integer("(quotient " + LEAST + " -1)", Integer.MIN_VALUE);
        Check.integer("(remainder " + LEAST + " -1)", 0);
        Check.integer("(quotient " + LEAST + " 1)", Integer.MIN_VALUE);
        Check.integer("(quotient " + LEAST + " " + LEAST + ")", 1);
        Check.integer("(quotient " + MOST + " " + LEAST + ")", 0);
        Check.integer("(remainder " + MOST + " " + LEAST + ")", Integer.MAX_VALUE);
        Check.integer("(quotient " + MOST + " -1)", -Integer.MAX_VALUE);
        Check.integer("(quotient 0 5)", 0);
        Check.integer("(remainder 0 -5)", 0);
    }

    /** "emit puts an INTEGER to the OUTPUTS, read takes the first of the INPUTS." */
    private static void readsAndEmits() {
        Check.sentence("W15 the first of the INPUTS, behind the last of the OUTPUTS");
        BracketTongue x = Check.built("(emit (read)) (emit (- (read) (read))) (emit (read))");
        x.input(Integer.MAX_VALUE);
        x.input(5);
        x.input(3);
        x.input(Integer.MIN_VALUE);
        x.input(77);
        Check.due("run", x.run(0), 0);
        Check.due("first", x.output(0), Integer.MAX_VALUE);
        Check.due("second", x.output(1), 2);
        Check.due("third", x.output(2), Integer.MIN_VALUE);
        Check.due("one is left", x.count(6), 1);
    }

    /** "1 what is called is no PROCEDURE, no PRIMITIVE". */
    private static void notCallable() {
        Check.sentence("W16 ERROR 1");
        for (int kind = 0; kind < 7; kind++) {
            for (int n = 0; n <= 8; n += 4) {
                Check.worked("(" + KINDS[kind] + Check.times(" 1", n) + ")", 11);
            }
        }
        Check.worked("('car '(1))", 11);
        Check.worked("((lambda () 1))", 0);
        Check.worked("(car '(1))", 0);
    }

    /** "2 it gets more or fewer than it has NAMES, or wants". */
    private static void moreOrFewer() {
        Check.sentence("W17 ERROR 2");
        String[] names = {"", "a", "a b", "a b c", "a b c d", "a b c d e", "a b c d e f", "a b c d e f g", "a b c d e f g h"};
        for (int wants = 0; wants <= 8; wants++) {
            for (int got = 0; got <= 8; got++) {
                Check.worked("((lambda (" + names[wants] + ") 1)" + Check.times(" 1", got) + ")", got == wants ? 0 : 12);
            }
        }
        for (int got = 0; got <= 8; got++) {
            for (String one : OF_ONE) {
                Check.worked("(" + one + Check.times(" 1", got) + ")", got != 1 ? 12 : one.charAt(0) == 'c' ? 13 : 0);
            }
            for (String two : OF_TWO) {
                Check.worked("(" + two + Check.times(" 1", got) + ")", got != 2 ? 12 : two.startsWith("set") ? 13 : 0);
            }
            Check.worked("(read" + Check.times(" 1", got) + ")", got == 0 ? 2 : 12);
        }
    }

    /** "3 it gets what it can't work with (INTEGERS for + - * quotient remainder = < emit; PAIRS for car cdr set-car!
     * set-cdr!; the first of several that is wrong)". */
    private static void wrongKinds() {
        Check.sentence("W18 ERROR 3");
        for (int kind = 0; kind < KINDS.length; kind++) {
            for (String called : OF_INTEGERS) {
                Check.worked("(" + called + " 1 " + KINDS[kind] + ")", kind == 1 ? 0 : 13);
                Check.worked("(" + called + " " + KINDS[kind] + " 1)", kind == 1 ? 0 : 13);
                Check.worked("(" + called + " " + KINDS[kind] + " #t)", 13);
            }
            Check.worked("(emit " + KINDS[kind] + ")", kind == 1 ? 0 : 13);
            Check.worked("(car " + KINDS[kind] + ")", kind == 6 ? 0 : 13);
            Check.worked("(cdr " + KINDS[kind] + ")", kind == 6 ? 0 : 13);
            Check.worked("(set-car! " + KINDS[kind] + " 1)", kind == 6 ? 0 : 13);
            Check.worked("(set-cdr! " + KINDS[kind] + " 1)", kind == 6 ? 0 : 13);
            Check.worked("(set-car! '(1) " + KINDS[kind] + ")", 0);
            Check.worked("(set-cdr! '(1) " + KINDS[kind] + ")", 0);
        }
    }

    /** "4 a division by 0". */
    private static void byZero() {
        Check.sentence("W19 ERROR 4");
        String[] divided = {"0", "1", "-1", MOST, LEAST};
        for (String a : divided) {
            Check.worked("(quotient " + a + " 0)", 14);
            Check.worked("(remainder " + a + " 0)", 14);
            Check.worked("(remainder " + a + " -0)", 14);
            Check.worked("(quotient " + a + " 1)", 0);
            Check.worked("(remainder " + a + " -1)", 0);
        }
        // What can't be worked with is asked first.
        Check.worked("(quotient #t 0)", 13);
        Check.worked("(remainder 'a 0)", 13);
        Check.worked("(quotient 0 #f)", 13);
    }

    /** "5 a value of a NAME that has nothing yet (set! of one too)". */
    private static void nothingYet() {
        Check.sentence("W20 ERROR 5");
        Check.worked("a (define a 1)", 15);
        Check.worked("(set! a 1) (define a 1)", 15);
        Check.worked("(letrec ((a (begin (set! a 1) a))) 1)", 15);
        Check.worked("(letrec ((a (begin (set! b 1) 1)) (b 1)) 1)", 15);
        Check.worked("(letrec ((f (lambda () (set! b 1))) (a (f)) (b 1)) 1)", 15);
        Check.worked("(letrec ((f (lambda () b)) (a (f)) (b 1)) 1)", 15);
        Check.worked("(define f (lambda () (set! a 1))) (f) (define a 1)", 15);
        Check.worked("(define a 1) (set! a 2)", 0);
        Check.worked("(letrec ((a 1) (b (set! a 2))) 1)", 0);
        // NOTHING is a value too.
        Check.worked("(define a (emit 1)) a (set! a 1)", 0);
        Check.worked("(letrec ((a (emit 1)) (b a)) (set! a b) b)", 0);
        // Its FORM is worked ahead of it.
        outputs("(set! a (emit 1)) (define a 1)", 15, 1);
        Check.worked("(set! a (car 1)) (define a 1)", 13);
        // What is called is a value of a NAME as well, and so is what a CALL gets.
        outputs("(a (emit 1)) (define a 1)", 15);
        outputs("(+ (begin (emit 1) 1) a) (define a 1)", 15, 1);
    }

    /** A text that has made so many CELLS (9 to 40,000) with about an eighth of that in STEPS. */
    private static String cells(int howMany) {
        int rest = (howMany - 1) % 8;
        String eight = Check.times("(cons 1 ", 8) + "1" + Check.times(")", 8);
        return "(define g (lambda (n) (if (= n 0) 0 (begin " + eight + " (g (- n 1)))))) (g " + (howMany - 1) / 8 + ")"
                + Check.times("(cons 1 1)", rest);
    }

    private static void cellsAre(String text, int answer, int cells) {
        Check.due("count(8) of " + Check.shown(text), Check.worked(text, answer).count(8), cells);
    }

    /** "6 ROOM: more than 40,000 CELLS would be made since build() or restart(): a PAIR of cons is one". */
    private static void lastCell() {
        Check.sentence("W21 ERROR 6: the 40,001st CELL");
        cellsAre(cells(39999), 0, 39999);
        cellsAre(cells(39999) + "(cons 1 1)", 0, 40000);
        cellsAre(cells(40000), 0, 40000);
        cellsAre(cells(40000) + "(cons 1 1)", 16, 40000);
        cellsAre(cells(39999) + "(cons (cons 1 1) 1)", 16, 40000);
        cellsAre(cells(40000) + "(lambda () 1)", 16, 40000);
        cellsAre(cells(39999) + "(lambda () 1)", 0, 40000);
        cellsAre(cells(40000) + "(car '(1 2)) (let ((a 1)) a) (set-car! '(1) 2)", 0, 40000);
        cellsAre(cells(40000) + "(cons 1)", 12, 40000);
        outputs(cells(40000) + "(cons (emit 1) (emit 2))", 16, 1, 2);
        BracketTongue x = Check.worked(cells(40000) + "(cons 1 1)", 16);
        Check.due("again", x.run(5), 16);
        Check.due("restart", x.restart(), true);
        Check.due("no CELLS since then", x.count(8), 0);
        Check.due("run", x.run(20000), 16);
        Check.due("as many CELLS", x.count(8), 40000);
        Check.due("build", Check.build(x, "(cons 1 1)"), 0);
        Check.due("run", x.run(0), 0);
        Check.due("one CELL since then", x.count(8), 1);
    }

    /** "a PROCEDURE one and as many as NAMES of bindings around it .. are free in its lambda": all or none. */
    private static void lastCellsOfProcedures() {
        Check.sentence("W22 ERROR 6: a PROCEDURE that takes several CELLS");
        String three = "(let ((a 1) (b 2)) (lambda () a b))";
        cellsAre(cells(39997) + three, 0, 40000);
        cellsAre(cells(39998) + three, 16, 39998);
        cellsAre(cells(39999) + three, 16, 39999);
        cellsAre(cells(40000) + three, 16, 40000);
        String nine = "(let ((a 1)(b 1)(c 1)(d 1)(e 1)(f 1)(h 1)(i 1)) (lambda () a b c d e f h i))";
        cellsAre(cells(39991) + nine, 0, 40000);
        cellsAre(cells(39992) + nine, 16, 39992);
    }

    /** "as many as NAMES of bindings around it (not defined ones) are free in its lambda". */
    private static void cellsOfProcedures() {
        Check.sentence("W23 CELLS of a PROCEDURE");
        cellsAre("(lambda () 1)", 0, 1);
        cellsAre("(lambda (a) a)", 0, 1);
        cellsAre("(define a 1) (lambda () a)", 0, 1);
        cellsAre("(let ((a 1)) (lambda () 1))", 0, 1);
        cellsAre("(let ((a 1)) (lambda () 'a))", 0, 1);
        cellsAre("(let ((a 1)) (lambda () a))", 0, 2);
        cellsAre("(let ((a 1)) (lambda () a a a))", 0, 2);
        cellsAre("(let ((a 1)) (lambda () (set! a 1)))", 0, 2);
        cellsAre("(let ((a 1)) (lambda (a) a))", 0, 1);
        cellsAre("(let ((a 1)) (lambda () (let ((a 1)) a)))", 0, 1);
        cellsAre("(let ((a 1)) (lambda () (let ((a a)) a)))", 0, 2);
        cellsAre("(let ((a 1)) (lambda () (letrec ((a a)) a)))", 0, 1);
        cellsAre("(let ((a 1)) (lambda () (lambda () a)))", 0, 2);
        cellsAre("(let ((a 1)) (lambda () (lambda (a) a)))", 0, 1);
        cellsAre("(letrec ((a (lambda () (a)))) a)", 0, 2);
        cellsAre("(define a 1) (let ((a 1)) (lambda () a))", 0, 2);
        cellsAre("((lambda (a b c d e f g h) (lambda () a b c d e f g h)) 1 2 3 4 5 6 7 8)", 0, 10);
        cellsAre("((lambda (a) (lambda (b) (lambda () a b))) 1)", 0, 3);
        cellsAre("(((lambda (a) (lambda (b) (lambda () a b))) 1) 2)", 0, 6);
        cellsAre("(let ((a 1)) (if #f (lambda () a) 1))", 0, 0);
    }

    /** A text that has so many CALLS open where it works a FORM that stands in no last place. */
    private static String within(int open, String form) {
        return "(define f (lambda (n) (+ 0 (if (= n 1) " + form + " (f (- n 1)))))) (f " + open + ")";
    }

    private static void openAre(String text, int answer, int open) {
        Check.due("count(9) of " + Check.shown(text), Check.worked(text, answer).count(9), open);
    }

    /** "7 DEEP: more than 1,000 CALLS of PROCEDURES would be OPEN". */
    private static void deepest() {
        Check.sentence("W24 ERROR 7: the 1,001st open CALL");
        String id = "(define id (lambda (a) a))";
        openAre(within(1000, "5"), 0, 0);
        openAre(within(1001, "5"), 17, 1000);
        openAre(id + within(999, "(id 5)"), 0, 0);
        openAre(id + within(1000, "(id 5)"), 17, 1000);
        openAre(within(1000, "(car '(5))"), 0, 0);
        openAre("(define f (lambda () (+ 1 (f)))) (f)", 17, 1000);
        Check.due("STEPS", Check.worked("(define f (lambda () (+ 1 (f)))) (f)", 17).count(10), 1000);
        // Behind it there is room again for those that were ended.
        Check.integer(within(1000, "5") + "(f 1000)", 5);
        openAre(within(1000, "5") + "(f 1000) (f 1001)", 17, 1000);
    }

    /** "nor gave way to a CALL in last place (of its PROCEDURE's body; the last FORM of a body, of begin, let, letrec,
     * and, or, both of an if's latter two, where these are in last place ..". */
    private static void lastPlaces() {
        Check.sentence("W25 a CALL in last place leaves nothing behind");
        String[] bodies = {"(g)", "1 (g)", "(begin (g))", "(begin 1 (g))", "(let () (g))", "(let ((a 1)) a (g))",
            "(letrec () (g))", "(letrec ((a 1)) a (g))", "(and (g))", "(and 1 (g))", "(or (g))", "(or #f (g))",
            "(if 1 (g) 2)", "(if #f 1 (g))", "(if 1 (let ((a 1)) (begin (and 1 (or #f (letrec () (g)))))) 2)"};
        for (String body : bodies) {
            BracketTongue x = Check.built("(define f (lambda () " + body + ")) (define g (lambda () (f))) (f)");
            Check.due("run of " + body, x.run(3001), 1);
            Check.due("count(9) of " + body, x.count(9), 1);
            Check.due("count(10) of " + body, x.count(10), 3001);
        }
        // With all 1,000 open there is still room for a CALL in last place.
        Check.integer("(define g (lambda (n) (if (= n 0) 6 (g (- n 1))))) (define f (lambda (n) (if (= n 1) (g 9) (+ 0 (f (- n 1)))))) (f 1000)", 6);
    }

    /** "where these are in last place; FORMS of the row stand in no last place". */
    private static void noLastPlaces() {
        Check.sentence("W26 what is in no last place");
        String[] bodies = {"(+ 1 (f))", "(f) 1", "((f))", "(begin (f) 1)", "(let ((a (f))) a)", "(letrec ((a (f))) a)",
            "(and (f) 1)", "(or (f) 1)", "(if (f) 1 2)", "(set! z (f))", "(+ 1 (begin (f)))", "(+ 1 (let () (f)))",
            "(+ 1 (letrec () (f)))", "(+ 1 (and (f)))", "(+ 1 (or (f)))", "(+ 1 (if 1 (f) 2))", "(+ 1 (if #f 1 (f)))"};
        for (String body : bodies) {
            openAre("(define z 1) (define f (lambda () " + body + ")) (f)", 17, 1000);
        }
        BracketTongue x = Check.built("(define f (lambda () (f))) (begin (if 1 (f) 2))");
        x.run(0);
        Check.due("none is open yet", x.count(9), 0);
        x.run(1);
        Check.due("one of the row", x.count(9), 1);
        x.run(1);
        Check.due("which gave way", x.count(9), 1);
    }

    /** "As a CALL begins, 1, 2, 7 are asked in this order." */
    private static void orderOfErrors() {
        Check.sentence("W27 1, 2, 7 in this order");
        openAre(within(1000, "(5)"), 11, 1000);
        openAre(within(1000, "(5 1)"), 11, 1000);
        openAre(within(1000, "(f)"), 12, 1000);
        openAre(within(1000, "(f 1 2)"), 12, 1000);
        openAre(within(1000, "(f 5)"), 17, 1000);
        openAre(within(1000, "(car)"), 12, 1000);
        openAre(within(1000, "(car 1)"), 13, 1000);
        // All of them ahead of a STEP that would be too many.
        BracketTongue x = Check.built(within(1000, "(f 5)"));
        Check.due("all but one", x.run(999), 1);
        Check.due("DEEP", x.run(1), 17);
        x = Check.built("(define f (lambda (a) a)) (f)");
        Check.due("more or fewer", x.run(0), 12);
        x = Check.built("(5)");
        Check.due("not callable", x.run(0), 11);
        // What a CALL gets is worked ahead of its beginning.
        outputs("(5 (emit 1) (emit 2))", 11, 1, 2);
        outputs("((lambda () 1) (emit 1) (emit 2))", 12, 1, 2);
    }

    /** "ERRORS end all". */
    private static void errorsEndAll() {
        Check.sentence("W28 ERRORS end all");
        String[] wrong = {"(1)", "(car)", "(car 1)", "(quotient 1 0)", "z"};
        for (int i = 0; i < wrong.length; i++) {
            BracketTongue x = Check.built("7 (emit 1) (+ 1 " + wrong[i] + ") (emit 2) (define z 1)");
            Check.due("run", x.run(5), 11 + i);
            String seen = Check.seen(x);
            Check.due("again", x.run(20000), 11 + i);
            Check.due("all is as it was", Check.seen(x), seen);
            Check.due("FORMS through", x.count(3), 2);
            Check.due("an input", x.input(4), 1);
            x.clear();
            Check.due("still", x.run(5), 11 + i);
            Check.due("OUTPUTS", x.count(7), 0);
        }
    }

    /** "A STEP is a CALL of a PROCEDURE that begins." */
    private static void steps() {
        Check.sentence("W29 what is a STEP");
        stepsAre("(car '(1)) (+ 1 2) (let ((a 1)) a)", 0, 0);
        stepsAre("((lambda () 1))", 0, 1);
        stepsAre("((lambda (a) a) ((lambda (a) a) 1))", 0, 2);
        stepsAre("(define f (lambda (n) (if (= n 0) 1 (f (- n 1))))) (f 5)", 0, 6);
        stepsAre("((lambda (a) a))", 12, 0);
        stepsAre("((lambda () (car 1)))", 13, 1);
    }

    private static void stepsAre(String text, int answer, int steps) {
        Check.due("count(10) of " + text, Check.worked(text, answer).count(10), steps);
    }

    /** "A RUN of n goes on till .. STEP n + 1 of it would begin". */
    private static void stepTooMany() {
        Check.sentence("W30 till STEP n + 1 of it would begin");
        String three = "(define f (lambda (a) a)) (f 1) (f 2) 5 (f 3) 6";
        for (int n = 0; n <= 4; n++) {
            BracketTongue x = Check.built(three);
            Check.due("run(" + n + ")", x.run(n), n < 3 ? 1 : 0);
            Check.due("STEPS", x.count(10), Math.min(n, 3));
            Check.due("FORMS through", x.count(3), n == 0 ? 1 : n == 1 ? 2 : n == 2 ? 4 : 6);
            Check.due("the rest", x.run(3 - Math.min(n, 3)), 0);
            Check.due("all STEPS", x.count(10), 3);
        }
        BracketTongue x = Check.built("(define f (lambda (n) (if (= n 0) 9 (f (- n 1))))) (f 19999)");
        Check.due("20,000 STEPS in one RUN", x.run(20000), 0);
        x = Check.built("(define f (lambda (n) (if (= n 0) 9 (f (- n 1))))) (f 20000)");
        Check.due("20,001 STEPS are one too many", x.run(20000), 1);
        Check.due("none more", x.run(0), 1);
        Check.due("the last one", x.run(1), 0);
        Check.due("its value", x.at(1), 9);
    }

    /** "read lacks an INPUT". */
    private static void inputLacks() {
        Check.sentence("W31 read lacks an INPUT");
        BracketTongue x = Check.built("(define f (lambda (n) (if (= n 0) 5 (+ (read) (f (- n 1)))))) (f 3)");
        Check.due("without any", x.run(9), 2);
        Check.due("without any again", x.run(0), 2);
        x.input(10);
        x.input(20);
        Check.due("no STEP left", x.run(0), 1);
        Check.due("one lacks", x.run(9), 2);
        Check.due("all were taken", x.count(6), 0);
        x.input(30);
        x.input(40);
        Check.due("the rest", x.run(9), 0);
        Check.due("its value", x.at(1), 65);
        Check.due("what was not wanted stays", x.count(6), 1);
        Check.worked("(read 1)", 12);
        Check.worked("(if #t 1 (read))", 0);
    }

    private static String emits(int howMany) {
        return "(define f (lambda (n) (if (= n 0) 0 (begin (emit n) (f (- n 1)))))) (f " + howMany + ")";
    }

    /** "emit finds 1,000 OUTPUTS". */
    private static void outputsFull() {
        Check.sentence("W32 emit finds 1,000 OUTPUTS");
        BracketTongue x = Check.worked(emits(999) + "(emit 7)", 0);
        Check.due("all 1,000", x.count(7), 1000);
        Check.due("the last one", x.output(999), 7);
        x = Check.worked(emits(1000) + "(emit 7) 5", 3);
        Check.due("no more than 1,000", x.count(7), 1000);
        Check.due("the last one", x.output(999), 1);
        Check.due("nothing behind it", x.output(1000), 0);
        Check.due("FORMS through", x.count(3), 2);
        Check.due("again", x.run(20000), 3);
        Check.due("clear", x.clear(), 1000);
        Check.due("then", x.run(0), 0);
        Check.due("one", x.count(7), 1);
        Check.due("the first", x.output(0), 7);
        // What is wrong is wrong with full OUTPUTS too.
        Check.worked(emits(1000) + "(emit #t)", 13);
        Check.worked(emits(1000) + "(emit)", 12);
        Check.worked(emits(1000) + "(emit 1 2)", 12);
        Check.worked(emits(1000) + "(read)", 2);
    }

    /** "the next one goes on from there". */
    private static void goesOnFromThere() {
        Check.sentence("W33 the next RUN goes on from there");
        // What was worked ahead of the hold is not worked again.
        BracketTongue x = Check.built("(define f (lambda (a b) (+ a b))) (f (begin (emit 1) 2) (begin (emit 3) (read)))");
        for (int i = 0; i < 3; i++) {
            Check.due("held by read", x.run(5), 2);
            Check.due("OUTPUTS", x.count(7), 2);
        }
        x.input(40);
        for (int i = 0; i < 3; i++) {
            Check.due("held by the STEP", x.run(0), 1);
            Check.due("INPUTS", x.count(6), 0);
        }
        Check.due("through", x.run(1), 0);
        Check.due("its value", x.at(1), 42);
        Check.due("OUTPUTS", x.count(7), 2);
        // Each place where it can be held up, one STEP at a time, gives what one RUN gives.
        String text = "(define f (lambda (n) (letrec ((a (lambda (m) (if (= m 0) n (+ m (a (- m 1))))))) (let ((b (a n))) (if (< n 1) b (+ b (f (- n 1))))))))"
                + "(f 6)";
        x = Check.built(text);
        int runs = 0;
        while (runs < 200 && x.run(1) == 1) {
            runs++;
        }
        BracketTongue y = Check.worked(text, 0);
        Check.due("STEPS", x.count(10), y.count(10));
        Check.due("RUNS", runs + 1, y.count(10));
        Check.due("value", x.at(1), y.at(1));
        Check.due("CELLS", x.count(8), y.count(8));
    }
}
