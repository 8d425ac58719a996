/** Terms 1, READING: tokens, data, faults 1 and 2; how NAMES are numbered. */
public final class ReadingTest {
    public static void main(String[] args) {
        blanksAndComments();
        whatIsNoToken();
        integers();
        names();
        rowsThatDoNotGoOn();
        nesting();
        readingComesFirst();
        numbersOfNames();
        Check.end("ReadingTest");
    }

    private static void blanksAndComments() {
        Check.fine("");
        Check.fine("  \t\n ");
        Check.fine(";");
        Check.fine("; anything (((' AB \r");
        Check.fine("1;2)\n3");
        Check.integer("1;2\n3", 3);
        Check.integer("(+;x\n1\t2\n)", 3);
        Check.fault("1;2\r)", 0, -1);
        Check.fault("1\r", 1, 1);
        Check.fault("\u0000", 1, 0);
        Check.fault(" \u000b", 1, 1);
        Check.fault("1 \u00a0", 1, 2);
    }

    private static void whatIsNoToken() {
        Check.fault("A", 1, 0);
        Check.fault("abC", 1, 2);
        Check.fault("(+ 1 2.5)", 1, 6);
        Check.fault("\"a\"", 1, 0);
        Check.fault("1 , 2", 1, 2);
        Check.fault("[1]", 1, 0);
        Check.fault("{", 1, 0);
        Check.fault("`a", 1, 0);
        Check.fault("1 \u00ff", 1, 2);
        Check.fault("a@", 1, 1);
    }

    private static void integers() {
        Check.integer("0", 0);
        Check.integer("-0", 0);
        Check.integer("007", 7);
        Check.integer("-007", -7);
        Check.integer("2147483647", Integer.MAX_VALUE);
        Check.integer("-2147483648", Integer.MIN_VALUE);
        Check.integer("0000000000000000000000000000002147483647", Integer.MAX_VALUE);
        Check.fault("2147483648", 1, 0);
        Check.fault(" -2147483649", 1, 1);
        Check.fault("18446744073709551617", 1, 0);
        Check.fault("99999999999999999999999999999999999999999999", 1, 0);
        Check.fault("1a", 1, 0);
        Check.fault("1-", 1, 0);
        Check.fault("-1a", 1, 0);
        Check.fault("1 -1-", 1, 2);
        Check.fault("'--1", 0, -1);
        Check.kind("'--1", 5);
        Check.kind("'+1", 5);
    }

    private static void names() {
        Check.kind("#t", 3);
        Check.kind("#f", 2);
        Check.fault("#", 1, 0);
        Check.fault("#tt", 1, 0);
        Check.fault("#a", 1, 0);
        Check.fault("#f#", 1, 0);
        Check.kind("'a#1", 5);
        Check.kind("'abcdefghijkl", 5);
        Check.fault("'abcdefghijklm", 1, 1);
        Check.kind("'-", 5);
        Check.kind("'-a", 5);
        Check.kind("'_?!<>=*/+", 5);
        Check.integer("(define abcdefghijkl 3) (define abcdefghijk 4) abcdefghijkl", 3);
        Check.integer("(define abcdefg 3) (define abcdefh 4) abcdefg", 3);
    }

    private static void rowsThatDoNotGoOn() {
        Check.fault(")", 1, 0);
        Check.fault("1 )", 1, 2);
        Check.fault("(1))", 1, 3);
        Check.fault("(')", 1, 2);
        Check.fault("')", 1, 1);
        Check.fault("(", 1, 1);
        Check.fault("(car ", 1, 5);
        Check.fault("'", 1, 1);
        Check.fault("'  ", 1, 3);
        Check.fault("(car '", 1, 6);
        Check.fault("(a ; )", 1, 6);
        Check.fault("'(1 2 (3)", 1, 9);
        Check.fine("'1'2'()'''a");
    }

    private static void nesting() {
        String open = Check.times("(", 30);
        String close = Check.times(")", 30);
        Check.fine("'" + Check.times("(", 29) + Check.times(")", 29));
        Check.fault("'" + open + close, 2, 30);
        Check.fault(open + close, 3, 29);
        Check.fault(open + "(" + close, 2, 30);
        Check.fault(open + "1" + close + "(" + open, 2, 91);
        Check.fine(Check.times("'", 30) + "1");
        Check.fault(Check.times("'", 31) + "1", 2, 30);
        Check.fault(Check.times("'", 31), 2, 30);
        Check.fault(Check.times("('", 16), 2, 30);
        Check.fine(Check.times("('", 15) + "1" + Check.times(")", 15));
        Check.fine(Check.times(Check.times("'", 30) + "1 ", 90));
        Check.fault(open + ")" + "'", 1, 32);
        Check.fault(open + "A", 1, 30);
        Check.fault(open + "(A", 2, 30);
        Check.fault("A" + open + "(", 1, 0);
    }

    private static void readingComesFirst() {
        Check.fault("nosuch (if) )", 1, 12);
        Check.fault("() (", 1, 4);
        Check.fault("() " + Check.times("(", 31), 2, 33);
    }

    /** The NAMES are numbered along the text: words and what stands in quotes too, quote at a ' as well. */
    private static void numbersOfNames() {
        number("'a", 1);
        number("(quote a)", 1);
        number("(quote quote)", 0);
        number("''a (car ''a)", 0);
        number("(car (cdr ''a))", 3);
        number("(define x 'y)(begin x)", 3);
        number("; b\n#t 5 (begin 'car 'c)", 3);
        number("(define x 1) 'quote", 2);
        number("(begin (car ''a))", 2);
        number("(begin (car (quote (quote a))))", 2);
        number("(let ((a 1) (b 2)) (if a 'b 'a))", 2);
        BracketTongue x = Check.worked("'(quote a quote)", 0);
        Check.due("go(0)", x.go(0), true);
        Check.due("at(1) of quote in a list", x.at(1), 0);
    }

    private static void number(String text, int number) {
        BracketTongue x = Check.worked(text, 0);
        Check.due("at(0) of " + text, x.at(0), 5);
        Check.due("at(1) of " + text, x.at(1), number);
    }
}
