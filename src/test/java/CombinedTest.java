/** FORMS within FORMS and beside one another: every kind with every other. */
public final class CombinedTest {
    /** A FORM with a place for another one (%), whose value it gives; whether that place is a last one; its FORMS. */
    private static final class Around {
        final String text;
        final boolean isLast;
        final int forms;

        Around(String text, boolean isLast, int forms) {
            this.text = text;
            this.isLast = isLast;
            this.forms = forms;
        }

        String with(String part) {
            return text.replace("%", part);
        }
    }

    private static final Around[] ALL = {
        new Around("(if #t % 0)", true, 3),
        new Around("(if 7 % 0)", true, 3),
        new Around("(if #f 0 %)", true, 3),
        new Around("(let ((p (if #t % 0))) p)", false, 5),
        new Around("(if (begin % #f) 0 1)", false, 5),
        new Around("(begin 5 %)", true, 2),
        new Around("(begin %)", true, 1),
        new Around("(and 5 %)", true, 2),
        new Around("(and 5 'a %)", true, 3),
        new Around("(and (and % 5) 1)", false, 4),
        new Around("(or #f %)", true, 2),
        new Around("(or #f #f %)", true, 3),
        new Around("(or % 5)", false, 2),
        new Around("(let ((x 5)) %)", true, 2),
        new Around("(let () %)", true, 1),
        new Around("(let ((y 6) (x %)) x)", false, 3),
        new Around("(let ((x %) (y 6)) 3 x)", false, 4),
        new Around("(letrec ((x 5)) %)", true, 2),
        new Around("(letrec ((x 5) (y %)) y)", false, 3),
        new Around("(letrec ((y (lambda () 6)) (x %)) x)", false, 4),
        new Around("((lambda () %))", true, 2),
        new Around("((lambda (x y) 3 %) 5 6)", true, 5),
        new Around("((lambda (x y) y) 5 %)", false, 4),
        new Around("(((lambda (x) (lambda () %)) 5))", true, 5),
        new Around("(((lambda (x) (lambda () x)) %))", false, 5),
        new Around("((lambda (x) (set! x %) x) 5)", false, 5),
        new Around("(((lambda (x) (lambda () (set! x %) x)) 5))", false, 7),
        new Around("(begin (set! g %) g)", false, 3),
        new Around("(car (cons % 6))", false, 5),
        new Around("(+ % 0)", false, 3),
        new Around("((begin % car) '(1))", false, 4),
    };

    public static void main(String[] args) {
        faultsAtPlace("(define g 0)(define h %)");
        for (Around outer : ALL) {
            countedForms(outer);
            faultsAtPlace("(define g 0)(define h " + outer.with("%") + ")");
            for (Around inner : ALL) {
                beside(outer, inner);
                faultsWithin(outer, inner);
                lastPlaces(outer, inner);
                for (Around innermost : ALL) {
                    within(outer, inner, innermost);
                }
            }
        }
        Check.end("CombinedTest");
    }

    private static void within(Around outer, Around inner, Around innermost) {
        String text = outer.with(inner.with(innermost.with("1")));
        Check.integer("(define g 0)" + text, 1);
    }

    /** What one leaves behind on the way is not in the way of the next. */
    private static void beside(Around first, Around second) {
        String g = "(define g 0)(define t (lambda (a b c) (- (* 10 (+ (* 10 a) b)) c)))";
        String one = first.with("1");
        String two = second.with("1");
        Check.integer(g + one + two, 1);
        String call = "(t " + one + " " + two + " " + one + ")";
        Check.integer(g + call, 109);
        Check.integer(g + "((lambda (v w) " + one + two + call + ") 8 9)", 109);
        Check.integer(g + "(let ((v 8) (w 9)) " + one + two + "(+ (* v 1000) (+ (* w 2000) " + call + ")))", 26109);
        Check.integer(g + "((lambda (v w) (+ (* v 1000) (+ (* w 2000) " + call + "))) 8 9)", 26109);
    }

    private static void faultsWithin(Around outer, Around inner) {
        faultsAtPlace("(define g 0)" + outer.with(inner.with("%")));
        faultsAtPlace("(define g 0)(define h " + outer.with(inner.with("%")) + ")");
    }

    private static void faultsAtPlace(String around) {
        faultAtPlace(around, "zz", 4, 0);
        faultAtPlace(around, "()", 3, 0);
        faultAtPlace(around, "if", 3, 0);
        faultAtPlace(around, "define", 3, 0);
        faultAtPlace(around, "(define z 1)", 3, 0);
        faultAtPlace(around, "(define 1)", 3, 0);
        faultAtPlace(around, "(if zz zz)", 3, 0);
        faultAtPlace(around, "(set! zz 1)", 4, 6);
        faultAtPlace(around, "(set! car 1)", 5, 6);
        faultAtPlace(around, "(lambda (x x) zz)", 5, 11);
        faultAtPlace(around, "(1 2 3 4 5 6 7 8 9 10)", 3, 0);
    }

    private static void faultAtPlace(String around, String part, int kind, int behind) {
        Check.fault(around.replace("%", part), kind, around.indexOf('%') + behind);
    }

    /** A loop goes on for ever if each place on the way is a last one; else it gets too deep. */
    private static void lastPlaces(Around outer, Around inner) {
        boolean isLast = outer.isLast && inner.isLast;
        String text = "(define g 0)(define f (lambda () " + outer.with(inner.with("(f)")) + "))(f)";
        BracketTongue x = Check.worked(text, isLast ? 1 : 17);
        Check.due("OPEN in " + text, x.count(9), isLast ? 1 : 1000);
    }

    /** So many FORMS may stand ahead of it, and not one more. */
    private static void countedForms(Around around) {
        String text = around.with("1");
        int ahead = 1500 - 2 - (around.forms + 1);
        String pad = "(define g 0)" + Check.times("(1)", ahead / 2) + (ahead % 2 == 0 ? "" : "1 ");
        Check.fine(pad + text);
        String more = pad + "1 " + text;
        Check.due("the 1501st FORM in " + text, Check.build(new BracketTongue(), more), -1);
        Check.fault(pad + text + " 1", 6, pad.length() + text.length() + 1);
    }
}
