/**
 * Terms 1 of the document (THE TEXT), sentence by sentence: what each names as too small, too large, empty,
 * full or refused. The words in quotes are the document's.
 */
public final class TextBoundariesTest {
    private static final String[] FORM_WORDS = {
        "quote", "lambda", "if", "let", "letrec", "set!", "begin", "and", "or", "define"};
    private static final String[] PRIMITIVES = {
        "car", "cdr", "pair?", "null?", "integer?", "procedure?", "not", "emit", "cons", "set-car!", "set-cdr!", "eq?",
        "+", "-", "*", "quotient", "remainder", "=", "<", "read"};
    private static final String[] NAMES = {"a", "b", "c", "d", "e", "f", "g", "h", "i"};

    public static void main(String[] args) {
        textLength();
        eachByteByItself();
        eachByteBetween();
        lines();
        longestRows();
        integers();
        truths();
        names();
        lists();
        noToken();
        endsWithin();
        rowGoesOn();
        nesting();
        whicheverIsMetFirst();
        rowOfForms();
        oneOrMore();
        parts();
        namesWhereTheyMustBe();
        defineInTheRow();
        eightNames();
        eightPairs();
        eightInCall();
        noneIsFine();
        wordsAreNotBound();
        wordsStandFirst();
        emptyForm();
        noMeaning();
        twiceInOne();
        hundredDefined();
        lambdas();
        forms();
        whatIsNoForm();
        leastKindAtOneToken();
        firstAlong();
        nothingElseIsLookedAt();
        Check.end("TextBoundariesTest");
    }

    private static void row(String text, int forms) {
        BracketTongue x = Check.built(text);
        Check.due("count(2) of " + Check.shown(text), x.count(2), forms);
    }

    /** "THE TEXT: at most 3,000 bytes." */
    private static void textLength() {
        Check.sentence("T1 text of at most 3,000 bytes");
        Check.integer(Check.times(" ", 2999) + "7", 7);
        Check.fault(Check.times(" ", 2999) + "(", 1, 3000);
        Check.fault(Check.times(" ", 2999) + "a", 4, 2999);
        row(Check.times("1 ", 1500), 1500);
        row("", 0);
        Check.integer("7", 7);
    }

    /** "Blanks (9, 10, 32) and what is from a ; .. part TOKENS: ( and ) and ' and WORDS". */
    private static void eachByteByItself() {
        Check.sentence("T2 blanks, tokens, and bytes that are neither");
        for (int b = 0; b < 256; b++) {
            String text = String.valueOf((char) b);
            if (b == 9 || b == 10 || b == 32 || b == ';') {
                row(text, 0);
            } else if (b >= '0' && b <= '9') {
                Check.integer(text, b - '0');
            } else if (b == '(' || b == '\'') {
                Check.fault(text, 1, 1);
            } else if ("+-*<=".indexOf(b) >= 0) {
                row(text, 1);
            } else if ((b >= 'a' && b <= 'z') || "/>!?_".indexOf(b) >= 0) {
                Check.fault(text, 4, 0);
            } else {
                Check.fault(text, 1, 0);
            }
        }
    }

    private static void eachByteBetween() {
        Check.sentence("T3 blanks part tokens, nothing else but a token does");
        for (int b = 0; b < 256; b++) {
            String text = "1" + (char) b + "2";
            if (b == 9 || b == 10 || b == 32 || b == '\'') {
                row(text, 2);
            } else if (b == ';') {
                row(text, 1);
            } else if (b >= '0' && b <= '9') {
                Check.integer(text, 102 + 10 * (b - '0'));
            } else if (b == '(') {
                Check.fault(text, 1, 3);
            } else if ((b >= 'a' && b <= 'z') || "+-*/<>=!?_#".indexOf(b) >= 0) {
                Check.fault(text, 1, 0);
            } else {
                Check.fault(text, 1, 1);
            }
        }
    }

    /** "what is from a ; to the line's end (10)". */
    private static void lines() {
        Check.sentence("T4 from a ; to the line's end");
        row(";", 0);
        row(";;;)", 0);
        row(";\n", 0);
        row(";\n1", 1);
        row("1;\n2", 2);
        row("1;)\r)\n2", 2);
        row("1;2\n;3\n4", 2);
        Check.fault(";\n)", 1, 2);
        Check.fault("1;2\n\n)", 1, 5);
        StringBuilder all = new StringBuilder("5;");
        for (int b = 0; b < 256; b++) {
            all.append(b == 10 ? "" : String.valueOf((char) b));
        }
        Check.integer(all + "\n6", 6);
        Check.integer("(+ 1 ; (\n 2;\n)", 3);
        Check.integer("';a\n7", 7);
    }

    /** "WORDS: the longest row of a .. z, 0 .. 9 and + - * / < > = ! ? _ #". */
    private static void longestRows() {
        Check.sentence("T5 the longest row");
        row("12", 1);
        row("1 2", 2);
        row("1'2'3", 3);
        row("'a'b", 2);
        row("'a(car)", 2);
        row("(car)(car)1", 3);
        Check.fault("1+", 1, 0);
        Check.fault("(car#t)", 4, 1);
        Check.kind("'az09+-*/<>", 5);
        Check.kind("'z=!?_#a", 5);
    }

    /** "an INTEGER (digits, perhaps a - ahead; from -2147483648 to 2147483647)". */
    private static void integers() {
        Check.sentence("T6 the least and the greatest INTEGER");
        Check.integer("2147483647", Integer.MAX_VALUE);
        Check.fault("2147483648", 1, 0);
        Check.integer("-2147483648", Integer.MIN_VALUE);
        Check.fault("-2147483649", 1, 0);
        Check.fault("4294967296", 1, 0);
        Check.fault("-4294967297", 1, 0);
        Check.fault("9223372036854775808", 1, 0);
        Check.fault("18446744073709551616", 1, 0);
        Check.fault(Check.times("9", 3000), 1, 0);
        Check.fault("-" + Check.times("9", 2999), 1, 0);
        Check.integer(Check.times("0", 2990) + "2147483647", Integer.MAX_VALUE);
        Check.integer("-" + Check.times("0", 2989) + "2147483648", Integer.MIN_VALUE);
        Check.fault(Check.times("0", 2990) + "2147483648", 1, 0);
        Check.integer("0", 0);
        Check.integer("-0", 0);
        Check.integer("'2147483647", Integer.MAX_VALUE);
        Check.fault("'(1 2147483648)", 1, 4);
    }

    /** "or #t, or #f". */
    private static void truths() {
        Check.sentence("T7 #t and #f and nothing else with a # first");
        Check.kind("#t", 3);
        Check.kind("#f", 2);
        String[] none = {"#", "##", "#tt", "#ft", "#a", "#1", "#t#", "#f-", "#-t", "#true"};
        for (String text : none) {
            Check.fault(text, 1, 0);
            Check.fault("'( " + text + ")", 1, 3);
        }
    }

    /** "a NAME (at most 12 bytes; no digit and no # is first, nor a - with a digit behind it)". */
    private static void names() {
        Check.sentence("T8 a NAME of at most 12 bytes");
        Check.kind("'abcdefghijkl", 5);
        Check.fault("'abcdefghijklm", 1, 1);
        Check.fault("'" + Check.times("a", 2999), 1, 1);
        Check.integer("(define abcdefghijkl 4) abcdefghijkl", 4);
        Check.kind("'a", 5);
        Check.kind("'------------", 5);
        Check.fault("'-------------", 1, 1);
        for (int i = 0; i < 12; i++) {
            String other = "abcdefghijkl".substring(0, i) + "z" + "abcdefghijkl".substring(i + 1);
            Check.integer("(define abcdefghijkl 1) (define " + other + " 2) abcdefghijkl", 1);
        }
        Check.integer("(define abcdef 1) (define abcdefa 2) (define abcde 3) abcdef", 1);
        Check.sentence("T9 how a NAME begins");
        Check.fault("'0a", 1, 1);
        Check.fault("'9+", 1, 1);
        Check.fault("'-0a", 1, 1);
        Check.fault("'-9-", 1, 1);
        Check.fault("'#a", 1, 1);
        String[] fine = {"a0", "a#", "-", "--", "--1", "-a1", "-#", "+1", "*0", "/9", "_1", "?", "!1#"};
        for (String name : fine) {
            Check.kind("'" + name, 5);
        }
    }

    /** "( {DATUM} ), or ' DATUM, which is ( quote DATUM )". */
    private static void lists() {
        Check.sentence("T10 an empty list, ' and quote");
        Check.kind("'()", 4);
        Check.kind("'( \n)", 4);
        Check.kind("(car '(()))", 4);
        Check.kind("(car ''a)", 5);
        Check.kind("(eq? (car ''a) 'quote)", 3);
        Check.kind("(cdr (cdr ''a))", 4);
        Check.integer("(car (cdr ''7))", 7);
        Check.integer("(car (cdr (car (cdr '''7))))", 7);
        row(Check.times("'", 30) + "1", 1);
    }

    /** "fault 1: .. (what is no token, at its first byte ..". */
    private static void noToken() {
        Check.sentence("T11 what is no token, at its first byte");
        Check.fault("  1234x", 1, 2);
        Check.fault("(car abcdefghijklm)", 1, 5);
        Check.fault("abC", 1, 2);
        Check.fault("'ab\u0080", 1, 3);
        Check.fault("(\"a\")", 1, 1);
        Check.fault("(1 . 2)", 1, 3);
        Check.fault(Check.times(" ", 2999) + "\u0000", 1, 2999);
    }

    /** ".. the text's length, if it ends within a DATUM)". */
    private static void endsWithin() {
        Check.sentence("T12 the text's length, if it ends within a DATUM");
        Check.fault("(", 1, 1);
        Check.fault("'", 1, 1);
        Check.fault("(   ", 1, 4);
        Check.fault("( ; )", 1, 5);
        Check.fault("'\n", 1, 2);
        Check.fault("(()", 1, 3);
        Check.fault("'(')", 1, 3);
        Check.fault(Check.times("(", 30), 1, 30);
        Check.fault(Check.times("'", 30), 1, 30);
        Check.fault("(" + Check.times(" ", 2999), 1, 3000);
        BracketTongue x = new BracketTongue();
        int[] five = Check.fives("'(1 2 3) ; and more ");
        x.feed(five[0], five[1], five[2], five[3], five[4]);
        Check.due("a part of the tape", x.build(7), -1);
        Check.due("its end, not the tape's", x.fault(1), 7);
        x.feed(five[0], five[1], five[2], five[3], five[4]);
        Check.due("a part without a DATUM begun", x.build(0), 0);
    }

    /** "fault 1: the first token with which no row of DATA goes on". */
    private static void rowGoesOn() {
        Check.sentence("T13 a ) too many, and one behind a '");
        Check.fault(")", 1, 0);
        Check.fault("())", 1, 2);
        Check.fault("1)", 1, 1);
        Check.fault("')", 1, 1);
        Check.fault("(')", 1, 2);
        Check.fault("('' )", 1, 4);
        Check.fault("'1)", 1, 2);
        Check.fault("('1))", 1, 4);
        Check.fault("'()) 1", 1, 3);
        row("'('())", 1);
    }

    /** "2: a ( or ' that could stand there, but within 30 others". */
    private static void nesting() {
        Check.sentence("T14 within 30 others");
        String close = Check.times(")", 30);
        row("'" + Check.times("(", 29) + Check.times(")", 29), 1);
        Check.fault("'" + Check.times("(", 30) + close, 2, 30);
        Check.fault(Check.times("(", 29) + "'()" + close, 2, 30);
        Check.fault(Check.times("(", 29) + "''1" + close, 2, 30);
        row(Check.times("(", 29) + "'1" + Check.times(")", 29), 1);
        row(Check.times("(", 30) + "1" + close, 1);
        Check.fault(Check.times("(", 30) + "(1)" + close, 2, 30);
        Check.fault(Check.times("(", 30) + "'1" + close, 2, 30);
        row(Check.times("'", 29) + "()", 1);
        Check.fault(Check.times("'", 30) + "()", 2, 30);
        row(Check.times("'", 30) + "1" + Check.times("'", 30) + "1", 2);
        row(Check.times("(", 29) + "'1'2" + Check.times(")", 29), 1);
        row("'(" + Check.times("() '1 ", 400) + ")", 1);
    }

    /** ".. whichever is met first", and both ahead of the faults of FORMS. */
    private static void whicheverIsMetFirst() {
        Check.sentence("T15 whichever is met first");
        String thirty = Check.times("(", 30);
        Check.fault(thirty + "( A", 2, 30);
        Check.fault(thirty + "A (", 1, 30);
        Check.fault(")" + thirty + "(", 1, 0);
        Check.fault(thirty + "'", 2, 30);
        Check.fault(thirty, 1, 30);
        Check.fault(Check.times("'", 30) + ")", 1, 30);
        Check.sentence("T16 the faults 3 to 6 are of a text that is read");
        Check.fault("() if a (lambda (b b) b) )", 1, 25);
        Check.fault("() if a " + thirty + "(", 2, 38);
        Check.fault("() (", 1, 4);
    }

    /** "FORMS: the text is a row of them." */
    private static void rowOfForms() {
        Check.sentence("T17 the text is a row of FORMS");
        row("", 0);
        row(" ;\n", 0);
        row("1", 1);
        row("#t #f car '() (lambda () 1)", 5);
    }

    /** "with FORMS one or more, here and below". */
    private static void oneOrMore() {
        Check.sentence("T18 FORMS: one or more");
        String[] heads = {"(lambda ()", "(let ()", "(letrec ()", "(begin", "(and", "(or"};
        for (String head : heads) {
            Check.fault("1" + head + ")", 3, 1);
            Check.fine(head + " 1)");
            Check.fine(head + Check.times(" 1", 40) + ")");
        }
    }

    /** "one with more or fewer parts". */
    private static void parts() {
        Check.sentence("T19 more or fewer parts");
        faults3("(quote)", "(quote 1 2)", "(if)", "(if 1)", "(if 1 2)", "(if 1 2 3 4)", "(lambda)", "(lambda ())",
                "(let)", "(let ())", "(letrec)", "(letrec ())", "(set!)", "(set! z)", "(set! z 1 2)", "(begin)", "(and)",
                "(or)", "(define)", "(define z)", "(define z 1 2)", "(let ((a)) 1)", "(let ((a 1 2)) 1)", "(let (()) 1)",
                "(letrec ((a)) 1)", "(letrec ((a 1 2)) 1)", "(letrec (()) 1)", "(let ((a 1) (b)) 1)");
        Check.fine("(quote 1) (if 1 2 3) (lambda () 1) (let () 1) (letrec () 1) (define z 1) (set! z 1)");
        Check.fine("(let ((a 1)) 1) (letrec ((a 1)) 1)");
    }

    private static void faults3(String... texts) {
        for (String text : texts) {
            Check.fault(text, 3, 0);
            Check.fault("(define z 1)(car " + text + ")", 3, 17);
        }
    }

    /** "or with a part that is no NAME where one must be". */
    private static void namesWhereTheyMustBe() {
        Check.sentence("T20 a part that is no NAME where one must be");
        String[] none = {"1", "#t", "#f", "()", "(a)", "'a"};
        for (String part : none) {
            faults3("(lambda (" + part + ") 1)", "(lambda (a " + part + ") 1)", "(let ((" + part + " 1)) 1)",
                    "(letrec ((a 1) (" + part + " 1)) 1)", "(set! " + part + " 1)", "(define " + part + " 1)");
        }
        faults3("(lambda a 1)", "(lambda 1 1)", "(let a 1)", "(let 1 1)", "(let (a) 1)", "(letrec #t 1)", "(letrec (1) 1)");
    }

    /** "(define NAME FORM), as a FORM of the row alone". */
    private static void defineInTheRow() {
        Check.sentence("T21 define, as a FORM of the row alone");
        Check.fine("(define a 1)");
        Check.fault("(begin (define a 1))", 3, 7);
        Check.fault("(lambda () (define a 1))", 3, 11);
        Check.fault("(let () (define a 1))", 3, 8);
        Check.fault("(let ((b (define a 1))) b)", 3, 9);
        Check.fault("(letrec () (define a 1))", 3, 11);
        Check.fault("(if 1 2 (define a 1))", 3, 8);
        Check.fault("(and (define a 1))", 3, 5);
        Check.fault("(or 1 (define a 1))", 3, 6);
        Check.fault("(car (define a 1))", 3, 5);
        Check.fault("((define a 1))", 3, 1);
        Check.fault("(define a (define b 1))", 3, 10);
        Check.fault("(define a 1) (set! a (define b 1))", 3, 21);
        Check.fine("'(define a 1) '(begin (define a 1))");
        Check.fault("(begin (define a 1) a)", 3, 7);
        Check.fault("a (begin (define a 1))", 4, 0);
    }

    private static String joined(int howMany, String before, String behind) {
        StringBuilder all = new StringBuilder();
        for (int i = 0; i < howMany; i++) {
            all.append(i == 0 ? "" : " ").append(before).append(NAMES[i]).append(behind);
        }
        return all.toString();
    }

    /** "At most 8 NAMES .. may be in a lambda". */
    private static void eightNames() {
        Check.sentence("T22 at most 8 NAMES in a lambda");
        for (int n = 0; n <= 9; n++) {
            Check.fault("(lambda (" + joined(n, "", "") + ") 1)", n <= 8 ? 0 : 3, 0);
        }
        Check.fault("(car (lambda (" + joined(9, "", "") + ") 1))", 3, 5);
        Check.fault("(lambda (" + Check.times("a ", 9) + ") 1)", 3, 0);
        Check.fault("(lambda (a a a a a a a a) 1)", 5, 11);
    }

    /** "or pairs of a NAME and a FORM, may be in a .. let, letrec". */
    private static void eightPairs() {
        Check.sentence("T23 at most 8 pairs in a let, letrec");
        for (int n = 0; n <= 9; n++) {
            Check.fault("(let (" + joined(n, "(", " 1)") + ") 1)", n <= 8 ? 0 : 3, 0);
            Check.fault("(letrec (" + joined(n, "(", " 1)") + ") 1)", n <= 8 ? 0 : 3, 0);
        }
        Check.integer("(let (" + joined(8, "(", " 3)") + ") (+ a h))", 6);
        Check.integer("(letrec (" + joined(8, "(", " 3)") + ") (+ a h))", 6);
    }

    /** "at most 8 in a CALL behind what is called". */
    private static void eightInCall() {
        Check.sentence("T24 at most 8 in a CALL behind what is called");
        String[] called = {"1", "car", "(lambda () 1)", "'(1)", "#t"};
        for (String what : called) {
            for (int n = 0; n <= 9; n++) {
                Check.fault("(" + what + Check.times(" 1", n) + ")", n <= 8 ? 0 : 3, 0);
            }
        }
        Check.integer("((lambda (" + joined(8, "", "") + ") (+ (* 10 a) h)) 1 0 0 0 0 0 0 2)", 12);
    }

    /** "none is fine". */
    private static void noneIsFine() {
        Check.sentence("T25 none is fine");
        Check.integer("((lambda () 7))", 7);
        Check.integer("(let () 7)", 7);
        Check.integer("(letrec () 7)", 7);
        Check.fine("(1)");
    }

    /** "WORDS of FORMS (quote to define) and of PRIMITIVES can't be bound or set!"; "5: a NAME that is to be bound,
     * defined or set! and is one of those WORDS .. at it". */
    private static void wordsAreNotBound() {
        Check.sentence("T26 WORDS can't be bound, defined or set!");
        String[][] both = {FORM_WORDS, PRIMITIVES};
        for (String[] words : both) {
            for (String word : words) {
                Check.fault("(lambda (" + word + ") 1)", 5, 9);
                Check.fault("(lambda (a " + word + " b) 1)", 5, 11);
                Check.fault("(let ((" + word + " 1)) 1)", 5, 7);
                Check.fault("(letrec ((a 1) (" + word + " 1)) 1)", 5, 16);
                Check.fault("(set! " + word + " 1)", 5, 6);
                Check.fault("(define " + word + " 1)", 5, 8);
            }
        }
        Check.fine("(lambda (quot carr ca iff a>) 1)");
    }

    /** "the former stand first in their FORM alone"; "a WORD of FORMS that stands by itself: at it". */
    private static void wordsStandFirst() {
        Check.sentence("T27 WORDS of FORMS stand first in their FORM alone");
        for (String word : FORM_WORDS) {
            Check.fault(word, 3, 0);
            Check.fault("1 " + word, 3, 2);
            Check.fault("(1 " + word + ")", 3, 3);
            Check.fault("(begin " + word + ")", 3, 7);
            Check.fault("(let ((a " + word + ")) 1)", 3, 9);
            Check.fine("'" + word);
            Check.fine("'(1 " + word + ")");
        }
        for (String word : PRIMITIVES) {
            row(word + " (begin " + word + ") (1 " + word + ")", 3);
        }
    }

    /** "also () by itself". */
    private static void emptyForm() {
        Check.sentence("T28 () by itself");
        Check.fault("()", 3, 0);
        Check.fault("(())", 3, 1);
        Check.fault("(car ( ))", 3, 5);
        Check.fault("(let ((a ())) 1)", 3, 9);
        Check.fault("(lambda () ())", 3, 11);
        Check.fine("'()");
    }

    /** "4: a NAME with no meaning: nothing around binds it, no define of the row does, it is no PRIMITIVE: at it". */
    private static void noMeaning() {
        Check.sentence("T29 a NAME with no meaning");
        Check.fault("a", 4, 0);
        Check.fault("(a)", 4, 1);
        Check.fault("(set! a 1)", 4, 6);
        Check.fault("(begin ((lambda (a) a) 1) a)", 4, 26);
        Check.fault("((lambda (a) a) a)", 4, 16);
        Check.fault("(let ((a 1) (b a)) b)", 4, 15);
        Check.fault("(let ((a a)) 1)", 4, 9);
        Check.fault("(begin (let ((a 1)) a) a)", 4, 23);
        Check.fault("(begin (letrec ((a 1)) a) a)", 4, 26);
        Check.fault("(set! a (lambda (a) a))", 4, 6);
        Check.fine("(letrec ((a b) (b a)) a)");
        Check.fine("(lambda (a) (lambda () (let () (letrec () (begin (set! a (a)))))))");
        Check.fine("a (set! a 1) (lambda () a) (define a a)");
        Check.fault("(define aa 1) a", 4, 14);
        Check.fault("(define a 1) aa", 4, 13);
        for (String word : PRIMITIVES) {
            Check.fault("(" + word + " " + word + "x)", 4, word.length() + 2);
        }
    }

    /** "5: .. or is in its lambda, let or letrec already: at it". */
    private static void twiceInOne() {
        Check.sentence("T30 in its lambda, let or letrec already");
        Check.fault("(lambda (a a) 1)", 5, 11);
        Check.fault("(lambda (a b c d e f g a) 1)", 5, 23);
        Check.fault("(let ((a 1) (a 2)) 1)", 5, 13);
        Check.fault("(letrec ((a 1) (b 2) (b 3)) 1)", 5, 22);
        Check.fine("(lambda (a) (lambda (a) (let ((a a)) (letrec ((a a)) a))))");
        Check.fine("(define a 1) (define a 2) (lambda (a) a) (let ((a a)) a)");
        Check.fine("(let ((a (lambda (a b) a)) (b 1)) a)");
    }

    private static String defines(int howMany) {
        StringBuilder all = new StringBuilder();
        for (int i = 0; i < howMany; i++) {
            all.append("(define n").append(i).append(" 1)");
        }
        return all.toString();
    }

    /** "6: ROOM: the 101st NAME that is defined (each counted once; at that NAME)". */
    private static void hundredDefined() {
        Check.sentence("T31 the 101st NAME that is defined");
        String all = defines(100);
        Check.fine(all);
        Check.due("count(4)", Check.built(all).count(4), 100);
        Check.fault(all + "(define m 1)", 6, all.length() + 8);
        Check.fault("(lambda () m)" + all + "(define m 1)", 6, 13 + all.length() + 8);
        Check.sentence("T32 each counted once");
        Check.fine(all + "(define n0 2)(define n99 2)");
        Check.due("count(4)", Check.built(all + defines(60)).count(4), 100);
        Check.fault(all + "(define n5 2)(define m 1)", 6, all.length() + 13 + 8);
    }

    /** "the 121st lambda .. at their first token". */
    private static void lambdas() {
        Check.sentence("T33 the 121st lambda");
        String all = Check.times("(lambda () 1)", 120);
        Check.due("count(5)", Check.built(all).count(5), 120);
        Check.fault(all + "(lambda () 1)", 6, all.length());
        Check.fault(all + "(if 1 2 (lambda (a a) z))", 6, all.length() + 8);
        Check.fine(all + "'(lambda () 1)");
        String within = Check.times("(lambda()", 24) + "1" + Check.times(")", 24);
        Check.due("count(5)", Check.built(Check.times(within, 5)).count(5), 120);
        Check.fault(Check.times(within, 5) + "(lambda()1)", 6, 5 * within.length());
        Check.fault(Check.times("(lambda()1)", 119) + "(lambda () (lambda () 1))", 6, 119 * 11 + 11);
    }

    /** "the 1501st FORM (each FORM along the text, within others, too ..): at their first token". */
    private static void forms() {
        Check.sentence("T34 the 1501st FORM");
        Check.fine(Check.times("1 ", 1499) + "1");
        Check.fault(Check.times("1 ", 1498) + "1(1)", 6, 2998);
        Check.fine(Check.times("(1)", 750));
        Check.fault(Check.times("(1)", 750) + "1", 6, 2250);
        Check.fault(Check.times("(1)", 749) + "(1 1)", 6, 2250);
        Check.fault(Check.times("(1)", 749) + "1((1))", 6, 2249);
        Check.fault(Check.times("(1)", 750) + "(lambda () 1)", 6, 2250);
        Check.fault(Check.times("(1)", 750) + "'1", 6, 2250);
        Check.fault(Check.times("(1)", 750) + "#t", 6, 2250);
        Check.fault(Check.times("(1)", 750) + "car", 6, 2250);
        Check.fault(Check.times("(1)", 750) + "(define a 1)", 6, 2250);
        // Along the text: a let's FORMS stand ahead of those of its body, an if's in their order.
        String some = Check.times("(1)", 748);
        Check.fault(some + "(let ((a 1) (b 1)) 1 1)", 6, 2244 + 21);
        Check.fault(some + "(letrec ((a 1) (b 1) (c 1) (d 1)) 1)", 6, 2244 + 30);
        Check.fault(some + "(if 1 2 (1))", 6, 2244 + 9);
        Check.fault(some + "(and 1 (or 1 2))", 6, 2244 + 13);
        Check.fault(some + "(begin (1 2) 3)", 6, 2244 + 13);
        Check.fault(some + "(lambda (a b c) a b c a)", 6, 2244 + 22);
    }

    /** "not NAMES that are bound or set!, nor the DATUM of a quote". */
    private static void whatIsNoForm() {
        Check.sentence("T35 what is no FORM is not counted");
        String but = Check.times("(1)", 747);
        String start = "(define a 1)" + but;
        Check.fine(start + "(set! a 1)1 1");
        Check.fault(start + "(set! a 1)1 1 1", 6, start.length() + 14);
        Check.fine(start + "(lambda (b c d e f g h i) 1)1 1");
        Check.fault(start + "(lambda (b c) 1)1 1 1", 6, start.length() + 20);
        Check.fine(start + "(let ((b 1)(c 1)) 1)");
        Check.fault(start + "(let ((b 1)(c 1)) 1 1)", 6, start.length() + 20);
        Check.fine(start + "(letrec ((b 1)(c 1)) 1)");
        Check.fault(start + "(letrec ((b 1)(c 1)) 1 1)", 6, start.length() + 23);
        Check.fine(start + "'(1 2 (3 4) 5 6)1 1 1");
        Check.fine(start + "(quote (1 2 3 4 5))'1 1 1");
        Check.fault(start + "'(1 2 3)'1 1 1 1", 6, start.length() + 15);
    }

    /** "the first fault along it (at one token the least kind)". */
    private static void leastKindAtOneToken() {
        Check.sentence("T36 at one token the least kind");
        String full = Check.times("(1)", 750);
        Check.fault(full + "()", 3, 2250);
        Check.fault(full + "if", 3, 2250);
        Check.fault(full + "(lambda (a))", 3, 2250);
        Check.fault(full + "a", 4, 2250);
        Check.fault(full + "(a)", 6, 2250);
        Check.fault(Check.times("(lambda()1)", 120) + "(lambda ())", 3, 1320);
        Check.fault(defines(100) + "(define car 1)", 5, defines(100).length() + 8);
    }

    /** "Of a text that is read the first fault along it". */
    private static void firstAlong() {
        Check.sentence("T37 the first fault along the text");
        Check.fault("(car a) ()", 4, 5);
        Check.fault("(car ()) a", 3, 5);
        Check.fault("(lambda (a a) ()) b", 5, 11);
        Check.fault("(begin () (lambda (a a) b))", 3, 7);
        Check.fault("(let ((a b) (a ())) c)", 4, 9);
        Check.fault("(let ((a ()) (a b)) c)", 3, 9);
        Check.fault("(let ((a 1) (a b)) ())", 5, 13);
        Check.fault("(letrec ((a c) (a ())) c)", 4, 12);
        Check.fault("(define car a)", 5, 8);
        Check.fault("(set! a ())", 4, 6);
        Check.fault("(set! car ())", 5, 6);
        Check.fault("(if a () 1)", 4, 4);
        Check.fault("(a ())", 4, 1);
        Check.fault("(() a)", 3, 1);
        Check.fault(defines(100) + "(begin z)(define m 1)", 4, defines(100).length() + 7);
        Check.fault(Check.times("(lambda()1)", 121) + "z", 6, 1320);
        Check.fault("z" + Check.times("(lambda()1)", 121), 4, 0);
    }

    /** "In a FORM with a fault 3 nothing else is looked at." */
    private static void nothingElseIsLookedAt() {
        Check.sentence("T38 in a FORM with a fault 3 nothing else is looked at");
        Check.fault("(if a b)", 3, 0);
        Check.fault("(lambda (a a car 1) b)", 3, 0);
        Check.fault("(let ((a a) (b)) c)", 3, 0);
        Check.fault("(1 a b c d e f g h i)", 3, 0);
        Check.fault("(begin (define a b))", 3, 7);
        // A define with a fault 3 defines nothing.
        Check.fault("a (define a)", 4, 0);
        Check.fault("a (define a 1 2)", 4, 0);
        Check.fault("a (define a ())", 3, 12);
    }
}
