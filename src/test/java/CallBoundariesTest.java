/**
 * The promises 1 to 15, sentence by sentence: calls that are refused, arguments that are too small or too large,
 * what is empty and what is full. The words in quotes are the document's.
 */
public final class CallBoundariesTest {
    private static final int NONE = BracketTongue.NONE;
    private static final int LEAST = Integer.MIN_VALUE;
    private static final int MOST = Integer.MAX_VALUE;
    private static final int BLANK = 0x20202020;
    // A text for each fault from 1 on, and none for 0.
    private static final String[] FAULTY = {"1", "(car", Check.times("(", 31), "()", "nosuch", "(lambda (a a) a)",
        Check.times("(lambda()1)", 121)};

    public static void main(String[] args) {
        newObject();
        feedBytes();
        feedFull();
        buildOfTheFirst();
        buildAnew();
        buildWithFault();
        buildRefused();
        faultOfTheLatest();
        faultOfAnotherWhat();
        restartAnew();
        restartWithout();
        inputsFull();
        inputWithout();
        runAnswers();
        runAgain();
        runRefused();
        runPointer();
        outputsOf();
        clearOf();
        globals();
        globalRefused();
        goes();
        goRefused();
        marks();
        markRefused();
        sames();
        sameRefused();
        kindsAt();
        numbersAt();
        atAnotherWhat();
        counts();
        countOfAnotherWhat();
        Check.end("CallBoundariesTest");
    }

    /** An object in the midst of its work: held up by read, with OUTPUTS, INPUTS to come, a POINTER and PLACES. */
    private static BracketTongue midway() {
        BracketTongue x = Check.built("(define p (cons 1 (cons 2 3))) (define f (lambda (n) (emit n) (+ n (read)))) 8 (f 5) (f 6)");
        x.input(70);
        Check.due("midway", x.run(9), 2);
        x.global(0);
        x.mark(0);
        x.go(1);
        x.mark(1);
        x.feed(BLANK, BLANK, BLANK, BLANK, BLANK);
        return x;
    }

    /** The rest of the work of midway() is as if nothing had been asked between. */
    private static void restOf(BracketTongue x) {
        Check.due("an input", x.input(30), 1);
        Check.due("the rest", x.run(0), 0);
        Check.due("its value", x.at(1), 36);
        Check.due("OUTPUTS", x.output(0) * 10 + x.output(1), 56);
    }

    /** Promise 1: "An empty tape, no PROGRAM, no INPUTS, no OUTPUTS." */
    private static void newObject() {
        Check.sentence("P1 a new object");
        BracketTongue x = new BracketTongue();
        Check.due("all", Check.seen(x), "tape 0 fault 0 -1 counts 0 0 0 0 0 0 0 0 0 0 -1 at 0 0 same true true true true outputs");
        Check.due("build(1)", x.build(1), -2);
        Check.due("run(0)", x.run(0), NONE);
        Check.due("restart()", x.restart(), false);
        Check.due("input(1)", x.input(1), NONE);
        Check.due("output(0)", x.output(0), 0);
        Check.due("clear()", x.clear(), 0);
        Check.due("global(0)", x.global(0), false);
        Check.due("go(0)", x.go(0), false);
        Check.due("NONE", NONE, -1);
    }

    private static int feed(BracketTongue x, int[] five) {
        return x.feed(five[0], five[1], five[2], five[3], five[4]);
    }

    /** Promise 2: "Twenty bytes come behind those on the tape, of each number the highest first". */
    private static void feedBytes() {
        Check.sentence("P2a twenty bytes, of each number the highest first");
        for (int place = 0; place < 20; place++) {
            int[] five = {BLANK, BLANK, BLANK, BLANK, BLANK};
            int shift = 24 - 8 * (place % 4);
            five[place / 4] = five[place / 4] & ~(255 << shift) | ')' << shift;
            BracketTongue x = new BracketTongue();
            Check.due("feed", x.feed(BLANK, BLANK, BLANK, BLANK, BLANK), 20);
            Check.due("feed", feed(x, five), 40);
            Check.due("build(40)", x.build(40), NONE);
            Check.due("the place of byte " + place, x.fault(1), 20 + place);
            five[place / 4] = five[place / 4] & ~(255 << shift) | 255 << shift;
            feed(x, five);
            Check.due("build(20)", x.build(20), NONE);
            Check.due("the place of a byte of 255", x.fault(1), place);
        }
        BracketTongue x = new BracketTongue();
        Check.due("numbers below 0", x.feed(LEAST, -1, -1, -1, -1), 20);
        Check.due("build", x.build(20), NONE);
        Check.due("the first byte is 128", x.fault(1), 0);
        Check.due("numbers of 0", x.feed(0, 0, 0, 0, 0), 20);
        Check.due("build", x.build(20), NONE);
    }

    /** "how many it has; NONE, and nothing is done, if there would be more than 3,000". */
    private static void feedFull() {
        Check.sentence("P2b how many it has; NONE beyond 3,000");
        BracketTongue x = new BracketTongue();
        for (int i = 1; i < 150; i++) {
            Check.due("feed", x.feed(BLANK, BLANK, BLANK, BLANK, BLANK), 20 * i);
        }
        Check.due("the last feed", x.feed(BLANK, BLANK, BLANK, BLANK, 0x20202037), 3000);
        String seen = Check.seen(x);
        Check.due("one more", x.feed(0x29292929, 0x29292929, 0x29292929, 0x29292929, 0x29292929), NONE);
        Check.due("and another", x.feed(0, 0, 0, 0, 0), NONE);
        Check.due("nothing is done", Check.seen(x), seen);
        Check.due("build of all", x.build(3000), 0);
        Check.due("run", x.run(0), 0);
        Check.due("the last byte", x.at(1), 7);
        Check.due("room again", x.feed(BLANK, BLANK, BLANK, BLANK, BLANK), 20);
    }

    /** Promise 3: "The first n bytes of the tape, which is empty then, are the text". */
    private static void buildOfTheFirst() {
        Check.sentence("P3a the first n bytes of the tape, which is empty then");
        int[] due = {0, 1, 1, 2, 2, 3};
        for (int n = 0; n < due.length; n++) {
            BracketTongue x = new BracketTongue();
            feed(x, Check.fives("1 2 3)))))))))))))))"));
            Check.due("build(" + n + ")", x.build(n), 0);
            Check.due("count(2)", x.count(2), due[n]);
            Check.due("the tape", x.count(0), 0);
            Check.due("what is behind is gone", x.build(1), -2);
            Check.due("an empty text", x.build(0), 0);
            Check.due("an empty row", x.count(2), 0);
        }
        BracketTongue x = new BracketTongue();
        feed(x, Check.fives("1 2 3)))))))))))))))"));
        Check.due("build(6)", x.build(6), NONE);
        Check.due("the tape is empty with a fault too", x.count(0), 0);
        x = new BracketTongue();
        feed(x, Check.fives("12345678901234567890"));
        Check.due("a WORD that the text's end cuts", x.build(9), 0);
        x.run(0);
        Check.due("its value", x.at(1), 123456789);
    }

    /** "0, and it is the PROGRAM, as by restart()". */
    private static void buildAnew() {
        Check.sentence("P3b 0, and it is the PROGRAM, as by restart()");
        BracketTongue x = midway();
        x.build(0);
        Check.due("an empty PROGRAM", Check.seen(x), "tape 0 fault 0 -1 counts 1 0 0 0 0 0 0 0 0 0 -1 at 0 0 same true true true true outputs");
        x = midway();
        x.build(0);
        Check.build(x, "(define a (lambda () 1)) a (lambda () (lambda () 2))");
        Check.due("another", Check.seen(x), "tape 0 fault 0 -1 counts 1 3 0 1 3 0 0 0 0 0 -1 at 0 0 same true true true true outputs");
        Check.due("global(0)", x.global(0), true);
        Check.due("has nothing", x.at(0), 0);
        Check.due("global(1)", x.global(1), false);
        Check.due("run", x.run(0), 0);
        x = midway();
        x.build(0);
        x.run(0);
        Check.build(x, "(read)");
        Check.due("the INPUTS of before are gone", x.run(0), 2);
        // An ERROR, or an end, of before is gone too.
        String[] before = {"(car 1)", "1"};
        for (String text : before) {
            x = Check.built(text);
            x.run(0);
            Check.build(x, "5 6");
            Check.due("run", x.run(0), 0);
            Check.due("value", x.at(1), 6);
        }
    }

    /** "NONE with a fault (the PROGRAM of before stays as it is, all else too)". */
    private static void buildWithFault() {
        Check.sentence("P3c NONE with a fault: all stays as it is");
        for (int kind = 1; kind < FAULTY.length; kind++) {
            BracketTongue x = midway();
            String worked = Check.worked(x);
            // The blanks that midway() fed stand ahead of the text.
            int[] numbers = Check.fives(FAULTY[kind]);
            for (int i = 0; i < numbers.length; i += 5) {
                x.feed(numbers[i], numbers[i + 1], numbers[i + 2], numbers[i + 3], numbers[i + 4]);
            }
            Check.due("fault " + kind, x.build(20 + FAULTY[kind].length()), NONE);
            Check.due("its kind", x.fault(0), kind);
            Check.due("the tape", x.count(0), 0);
            Check.due("all else", Check.worked(x), worked);
            restOf(x);
            x = new BracketTongue();
            Check.due("without a PROGRAM", Check.build(x, FAULTY[kind]), NONE);
            Check.due("there is still none", x.count(1), 0);
            Check.due("nor anything else", Check.worked(x), Check.worked(new BracketTongue()));
            Check.due("run", x.run(0), NONE);
            Check.due("restart", x.restart(), false);
        }
    }

    /** "-2, and nothing is done, if there are not so many, or n is below 0". */
    private static void buildRefused() {
        Check.sentence("P3d -2, and nothing is done");
        int[] wrong = {21, 22, 3000, 3001, MOST, -1, -2, -20, LEAST};
        BracketTongue x = midway();
        String seen = Check.seen(x);
        for (int n : wrong) {
            Check.due("build(" + n + ")", x.build(n), -2);
            Check.due("nothing is done", Check.seen(x), seen);
        }
        restOf(x);
        Check.due("just so many", x.build(20), 0);
        Check.due("none", x.build(1), -2);
        Check.due("none", x.build(-1), -2);
        // A fault of before stays too.
        Check.build(x, "()");
        Check.due("build(1)", x.build(1), -2);
        Check.due("fault(0)", x.fault(0), 3);
        Check.due("fault(1)", x.fault(1), 0);
    }

    /** Promise 4: "Of the latest build() that gave 0 or NONE: its fault (what 0; 0 without), its place (1; NONE without)." */
    private static void faultOfTheLatest() {
        Check.sentence("P4a the latest build() that gave 0 or NONE");
        int[] places = {NONE, 4, 30, 0, 0, 11, 1320};
        BracketTongue x = new BracketTongue();
        for (int one = 0; one < FAULTY.length; one++) {
            Check.build(x, FAULTY[one]);
            Check.due("its fault", x.fault(0), one);
            Check.due("its place", x.fault(1), places[one]);
            x.build(1);
            x.build(-1);
            x.restart();
            x.run(9);
            x.feed(0, 0, 0, 0, 0);
            Check.due("still its fault", x.fault(0), one);
            Check.due("still its place", x.fault(1), places[one]);
            x.build(0);
            Check.due("none then", x.fault(0), 0);
            Check.due("no place then", x.fault(1), NONE);
        }
    }

    private static final int[] ANOTHER_WHAT = {-1, -2, 2, 3, 12, 13, 100, LEAST, LEAST + 1, MOST};

    /** "NONE for another what." */
    private static void faultOfAnotherWhat() {
        Check.sentence("P4b NONE for another what");
        BracketTongue x = new BracketTongue();
        for (String text : FAULTY) {
            for (int what : ANOTHER_WHAT) {
                Check.due("fault(" + what + ")", x.fault(what), NONE);
            }
            Check.build(x, text);
            x.build(0);
        }
    }

    /** Promise 5: "All begins anew: no OUTPUTS, no INPUTS, defined NAMES have nothing, no CELLS were made, the DATA of
     * quotes are made anew, PLACES have NOTHING, the POINTER is at NOTHING". */
    private static void restartAnew() {
        Check.sentence("P5a all begins anew");
        BracketTongue x = midway();
        x.input(7);
        Check.due("restart", x.restart(), true);
        Check.due("all", Check.seen(x), "tape 20 fault 0 -1 counts 1 5 0 2 1 0 0 0 0 0 -1 at 0 0 same true true true true outputs");
        Check.due("global(0)", x.global(0), true);
        Check.due("has nothing", x.at(0), 0);
        Check.due("again", x.restart(), true);
        Check.due("run", x.run(9), 2);
        Check.due("as at first", x.output(0), 5);
        Check.due("held by the first read", x.count(3), 3);
        String[] ended = {"'(1) (define l '(1)) (set-car! l 2) l", "(define l '(1)) (set-car! l (+ 1 (car l))) l (car 1)"};
        for (String text : ended) {
            x = Check.built(text);
            int answer = x.run(0);
            for (int i = 0; i < 3; i++) {
                Check.due("the DATUM as changed once", x.go(0), true);
                Check.due("its value", x.at(1), 2);
                Check.due("restart", x.restart(), true);
                Check.due("run", x.run(0), answer);
            }
        }
        // A fault of a later build stays, and the PROGRAM of before is what begins anew.
        x = Check.built("5");
        Check.build(x, "()");
        Check.due("restart", x.restart(), true);
        Check.due("fault(0)", x.fault(0), 3);
        Check.due("run", x.run(0), 0);
        Check.due("value", x.at(1), 5);
    }

    /** "whether there is a PROGRAM (else nothing is done)". */
    private static void restartWithout() {
        Check.sentence("P5b without a PROGRAM nothing is done");
        BracketTongue x = new BracketTongue();
        x.feed(0, 0, 0, 0, 0);
        String seen = Check.seen(x);
        Check.due("restart", x.restart(), false);
        Check.due("nothing is done", Check.seen(x), seen);
        x.build(20);
        Check.due("with a fault", x.restart(), false);
        Check.due("the fault stays", x.fault(0), 1);
        x.build(0);
        Check.due("with an empty PROGRAM", x.restart(), true);
    }

    /** Promise 6: "One more INPUT: how many there are; NONE, and nothing is done, if there are 200". */
    private static void inputsFull() {
        Check.sentence("P6a at most 200 INPUTS");
        BracketTongue x = Check.built("(define f (lambda (s) (f (+ s (begin (emit (read)) 1))))) (f 0)");
        for (int i = 1; i <= 200; i++) {
            Check.due("input", x.input(i), i);
        }
        String seen = Check.seen(x);
        Check.due("one more", x.input(-1), NONE);
        Check.due("nothing is done", Check.seen(x), seen);
        Check.due("one is taken", x.run(1), 1);
        Check.due("room for one", x.input(201), 200);
        Check.due("and no more", x.input(-1), NONE);
        Check.due("all are taken", x.run(20000), 2);
        Check.due("how many", x.count(7), 201);
        for (int i = 0; i < 201; i += 5) {
            Check.due("in their order", x.output(i), i + 1);
        }
        Check.due("the last one", x.output(200), 201);
        Check.due("from 1 on again", x.input(LEAST), 1);
        Check.due("two", x.input(MOST), 2);
        Check.due("run", x.run(20000), 2);
        Check.due("the least", x.output(201), LEAST);
        Check.due("the greatest", x.output(202), MOST);
    }

    /** "or there is no PROGRAM". */
    private static void inputWithout() {
        Check.sentence("P6b no INPUT without a PROGRAM");
        BracketTongue x = new BracketTongue();
        Check.due("new", x.input(1), NONE);
        Check.build(x, ")");
        Check.due("with a fault", x.input(1), NONE);
        Check.due("none", x.count(6), 0);
        Check.build(x, "(read)");
        Check.due("none was kept", x.run(0), 2);
        Check.due("with a PROGRAM", x.input(1), 1);
        Check.due("through", x.run(0), 0);
        Check.due("when all is through too", x.input(1), 1);
        Check.build(x, "(car 1)");
        x.run(0);
        Check.due("behind an ERROR too", x.input(1), 1);
        Check.build(x, "");
        Check.due("with an empty PROGRAM too", x.input(1), 1);
    }

    /** Promise 7: "0 all is through, 1 n STEPS were begun and another one would, 2 an INPUT lacks, 3 OUTPUTS are full,
     * 10 and more: 10 and the ERROR". */
    private static void runAnswers() {
        Check.sentence("P7a what a RUN answers");
        String loop = "(define f (lambda (n) (if (= n 0) 0 (begin (emit n) (f (- n 1))))))";
        Check.due("an empty row", Check.built("").run(0), 0);
        Check.due("through", Check.built("1").run(0), 0);
        Check.due("through with the last STEP", Check.built("((lambda () 1))").run(1), 0);
        Check.due("one STEP too many", Check.built("((lambda () 1))").run(0), 1);
        Check.due("an INPUT lacks", Check.built("(read)").run(20000), 2);
        Check.due("OUTPUTS are full", Check.built(loop + "(f 1001)").run(20000), 3);
        Check.due("OUTPUTS are just not", Check.built(loop + "(f 1000)").run(20000), 0);
        String[] errors = {"(1)", "(car)", "(car 1)", "(quotient 1 0)", "(define a a)",
            "(define g (lambda (l) (g (cons l (cons l (cons l l)))))) (g 1)", "(define g (lambda () (+ 1 (g)))) (g)"};
        for (int i = 0; i < errors.length; i++) {
            BracketTongue x = Check.built(errors[i]);
            Check.due("ERROR " + (i + 1), x.run(20000), 11 + i);
            Check.due("count(11)", x.count(11), 11 + i);
        }
    }

    /** "(Once all is through, or there was an ERROR, that again.)". */
    private static void runAgain() {
        Check.sentence("P7b that again");
        String[] texts = {"", "5", "7 (car 5) 6", "((lambda () (1)))"};
        int[] answers = {0, 0, 13, 11};
        for (int i = 0; i < texts.length; i++) {
            BracketTongue x = Check.built(texts[i]);
            Check.due("run", x.run(20000), answers[i]);
            String seen = Check.seen(x);
            x.input(1);
            int[] more = {0, 1, 20000};
            for (int n : more) {
                Check.due("again", x.run(n), answers[i]);
            }
            Check.due("but for the INPUT all is as it was", Check.seen(x).replaceFirst("counts (\\d+ \\d+ \\d+ \\d+ \\d+) 1", "counts $1 0"), seen);
        }
        // What holds a RUN up is no end.
        BracketTongue x = Check.built("(read) 4");
        Check.due("held up", x.run(0), 2);
        x.input(1);
        Check.due("through", x.run(0), 0);
    }

    /** "NONE, and nothing is done, if there is no PROGRAM, or n is not 0 to 20000". */
    private static void runRefused() {
        Check.sentence("P7c NONE, and nothing is done");
        int[] wrong = {-1, 20001, 20002, -20000, LEAST, MOST};
        BracketTongue x = midway();
        x.input(1);
        String seen = Check.seen(x);
        for (int n : wrong) {
            Check.due("run(" + n + ")", x.run(n), NONE);
            Check.due("nothing is done", Check.seen(x), seen);
        }
        Check.due("run(20000)", x.run(20000), 0);
        Check.due("run(0)", x.run(0), 0);
        x = Check.built("5");
        for (int n : wrong) {
            Check.due("run(" + n + ")", x.run(n), NONE);
            Check.due("no RUN answered", x.count(11), NONE);
        }
        Check.due("run(0)", x.run(0), 0);
        x = new BracketTongue();
        Check.build(x, ")");
        int[] fine = {0, 1, 20000};
        for (int n : fine) {
            Check.due("without a PROGRAM", x.run(n), NONE);
            Check.due("no RUN answered", x.count(11), NONE);
        }
    }

    /** "The POINTER is at the value of the latest FORM of the row that is through (NOTHING ahead of any) behind each." */
    private static void runPointer() {
        Check.sentence("P7d the POINTER behind each RUN");
        BracketTongue x = Check.built("(read) 7 (define p '(1)) (car 1)");
        x.run(0);
        Check.due("NOTHING ahead of any", x.at(0), 0);
        x.input(9);
        x.run(0);
        Check.due("what a define gives", x.at(0), 0);
        x = Check.built("(define p '(3)) 7 (read) (car p) (car 1)");
        x.run(0);
        Check.due("the latest through", x.at(1), 7);
        x.global(0);
        Check.due("elsewhere", x.at(0), 6);
        x.run(0);
        Check.due("there again", x.at(1), 7);
        x.input(9);
        x.run(0);
        Check.due("the latest ahead of the ERROR", x.at(1), 3);
        x.global(0);
        x.run(5);
        Check.due("there again", x.at(1), 3);
        x = Check.built("");
        x.run(0);
        Check.due("NOTHING of an empty row", x.at(0), 0);
        x = Check.built("(define p 5) (read)");
        for (int i = 0; i < 2; i++) {
            x.run(0);
            Check.due("NOTHING of a define", x.at(0), 0);
            x.global(0);
            Check.due("elsewhere", x.at(1), 5);
        }
        x = Check.built("(define f (lambda (n) (+ n 1))) 5 (f (f 1))");
        x.run(1);
        Check.due("values within a FORM are not it", x.at(1), 5);
    }

    /** Promise 8: "OUTPUT i (from 0 on); 0 if there is none such." */
    private static void outputsOf() {
        Check.sentence("P8 OUTPUT i, 0 if there is none such");
        int[] none = {-1, 3, 4, 999, 1000, 1001, LEAST, MOST};
        BracketTongue x = Check.worked("(emit 5) (emit -6) (emit 7)", 0);
        Check.due("output(0)", x.output(0), 5);
        Check.due("output(1)", x.output(1), -6);
        Check.due("output(2)", x.output(2), 7);
        for (int i : none) {
            Check.due("output(" + i + ")", x.output(i), 0);
        }
        x.clear();
        Check.due("cleared", x.output(0), 0);
        x = Check.worked("(define f (lambda (n) (emit n) (f (+ n 1)))) (f 1)", 3);
        Check.due("output(999)", x.output(999), 1000);
        Check.due("output(1000)", x.output(1000), 0);
        Check.due("output(-1)", x.output(-1), 0);
        x.restart();
        Check.due("restarted", x.output(999), 0);
    }

    /** Promise 9: "There are no OUTPUTS any more: how many there were." */
    private static void clearOf() {
        Check.sentence("P9 how many there were");
        BracketTongue x = new BracketTongue();
        Check.due("new", x.clear(), 0);
        Check.build(x, "(define f (lambda (n) (emit n) (f (+ n 1)))) (f 1)");
        Check.due("built", x.clear(), 0);
        x.run(3);
        Check.due("three", x.clear(), 3);
        Check.due("none", x.clear(), 0);
        Check.due("run", x.run(20000), 3);
        Check.due("full", x.clear(), 1000);
        Check.due("none", x.count(7), 0);
        Check.due("run", x.run(20000), 3);
        Check.due("full again", x.count(7), 1000);
        Check.due("the first then", x.output(0), 1004);
        Check.due("the last then", x.output(999), 2003);
    }

    /** Promise 10: "the value of the i-th NAME that is defined (from 0 on, as they are met along the text), NOTHING if it
     * has nothing yet". */
    private static void globals() {
        Check.sentence("P10a the i-th NAME that is defined");
        BracketTongue x = Check.built("(define a 1) (define b 2) (define a 3) (read) (define c (+ a b))");
        for (int i = 0; i < 3; i++) {
            x.run(0);
            Check.due("global(" + i + ")", x.global(i), true);
            Check.due("its value", x.at(1), i == 0 ? 3 : i == 1 ? 2 : 0);
            Check.due("or nothing yet", x.at(0), i == 2 ? 0 : 1);
        }
        x.input(1);
        x.run(0);
        Check.due("global(2)", x.global(2), true);
        Check.due("its value", x.at(1), 5);
        StringBuilder all = new StringBuilder();
        for (int i = 0; i < 100; i++) {
            all.append("(define n").append(i).append(" ").append(i).append(")");
        }
        x = Check.worked(all.toString(), 0);
        Check.due("the last of 100", x.global(99), true);
        Check.due("its value", x.at(1), 99);
        Check.due("the first", x.global(0), true);
        Check.due("its value", x.at(1), 0);
        Check.due("none behind", x.global(100), false);
    }

    /** "whether there is such a NAME (else it stays)". */
    private static void globalRefused() {
        Check.sentence("P10b else the POINTER stays");
        int[] none = {-1, 2, 3, 100, LEAST, MOST};
        BracketTongue x = midway();
        String seen = Check.seen(x);
        for (int i : none) {
            Check.due("global(" + i + ")", x.global(i), false);
            Check.due("it stays", Check.seen(x), seen);
        }
        x = Check.built("5");
        x.run(0);
        Check.due("nothing is defined", x.global(0), false);
        Check.due("it stays", x.at(1), 5);
        x = new BracketTongue();
        Check.build(x, "(define a 1) )");
        Check.due("without a PROGRAM", x.global(0), false);
        Check.build(x, "(define a 1)");
        Check.build(x, "(define a 1) (define b 2) ()");
        Check.due("that of a text with a fault", x.global(1), false);
    }

    /** Promise 11: "The POINTER goes to the first (0) or second (1) of the PAIR at which it is". */
    private static void goes() {
        Check.sentence("P11a first and second");
        BracketTongue x = Check.worked("(define p (cons 1 2)) (define q '(3)) (set-cdr! p p) p", 0);
        Check.due("second", x.go(1), true);
        Check.due("which is itself", x.go(1), true);
        Check.due("first", x.go(0), true);
        Check.due("its value", x.at(1), 1);
        x.global(1);
        Check.due("first", x.go(0), true);
        Check.due("its value", x.at(1), 3);
        x.global(1);
        Check.due("second", x.go(1), true);
        Check.due("the empty LIST", x.at(0), 4);
    }

    /** "whether it is at one, and which is 0 or 1 (else it stays)". */
    private static void goRefused() {
        Check.sentence("P11b else it stays");
        int[] wrong = {-1, 2, 3, LEAST, MOST};
        BracketTongue x = midway();
        String seen = Check.seen(x);
        for (int which : wrong) {
            Check.due("go(" + which + ")", x.go(which), false);
            Check.due("it stays", Check.seen(x), seen);
        }
        String[] noPairs = {"(define a 1)", "5", "#f", "#t", "'()", "'a", "(lambda () 1)", "car"};
        for (String text : noPairs) {
            x = Check.worked(text, 0);
            seen = Check.seen(x);
            for (int which = -1; which <= 2; which++) {
                Check.due("go(" + which + ") at " + text, x.go(which), false);
            }
            Check.due("it stays at " + text, Check.seen(x), seen);
        }
        x = new BracketTongue();
        Check.due("new", x.go(0) || x.go(1), false);
    }

    /** Promise 12: "The PLACE (0 to 3) has what the POINTER is at, as long as nothing begins anew". */
    private static void marks() {
        Check.sentence("P12a a PLACE has it as long as nothing begins anew");
        for (int place = 0; place < 4; place++) {
            BracketTongue x = Check.worked("(define p (cons 1 2)) 5 p", 0);
            Check.due("mark(" + place + ")", x.mark(place), true);
            for (int other = 0; other < 4; other++) {
                Check.due("this one alone", x.same(other), other == place);
            }
            x.go(0);
            Check.due("what it was at, not where it is", x.same(place), false);
            x.run(9);
            Check.due("a RUN leaves it", x.same(place), true);
            Check.build(x, ")");
            Check.due("a fault leaves it", x.same(place), true);
            x.clear();
            x.input(1);
            Check.due("so do others", x.same(place), true);
            x.go(1);
            Check.due("it has the latest", x.mark(place) && x.same(place), true);
            x.restart();
            Check.due("restart does not", x.same(place), true);
            x.run(9);
            Check.due("it has NOTHING", x.same(place), false);
            x.mark(place);
            Check.build(x, "(define z 1) 5");
            Check.due("nor does build", x.same(place), true);
            x.run(9);
            Check.due("it has NOTHING", x.same(place), false);
        }
    }

    /** "whether there is such a PLACE". */
    private static void markRefused() {
        Check.sentence("P12b whether there is such a PLACE");
        int[] none = {-1, 4, 5, LEAST, MOST};
        BracketTongue x = midway();
        String seen = Check.seen(x);
        for (int place : none) {
            Check.due("mark(" + place + ")", x.mark(place), false);
            Check.due("nothing is done", Check.seen(x), seen);
        }
        x = new BracketTongue();
        for (int place = -1; place <= 4; place++) {
            Check.due("new: mark(" + place + ")", x.mark(place), place >= 0 && place <= 3);
        }
    }

    /** Promise 13: "Whether the POINTER is at what eq? tells as that of a PLACE (NOTHING, as it begins)". */
    private static void sames() {
        Check.sentence("P13a what eq? tells as that of a PLACE");
        BracketTongue x = new BracketTongue();
        for (int place = 0; place < 4; place++) {
            Check.due("NOTHING, as it begins", x.same(place), true);
        }
        String[] values = {"(emit 1)", "1", "#f", "#t", "'()", "'a", "'(1)", "(lambda () 1)", "car", "2", "'b", "'(1)",
            "(lambda () 1)", "cdr", "1", "'a", "car"};
        StringBuilder text = new StringBuilder();
        for (int i = 0; i < values.length; i++) {
            text.append("(define v").append(i).append(" ").append(values[i]).append(")");
        }
        for (int one = 0; one < values.length; one++) {
            x = Check.worked(text.toString(), 0);
            x.global(one);
            x.mark(one % 4);
            for (int other = 0; other < values.length; other++) {
                boolean alike = one == other || (values[one].equals(values[other]) && !values[one].startsWith("'(")
                        && !values[one].startsWith("(l"));
                x.global(other);
                Check.due("v" + one + " and v" + other, x.same(one % 4), alike);
            }
        }
    }

    /** "false if there is no such PLACE". */
    private static void sameRefused() {
        Check.sentence("P13b false if there is no such PLACE");
        int[] none = {-1, 4, 5, LEAST, MOST};
        BracketTongue x = new BracketTongue();
        BracketTongue y = Check.worked("5", 0);
        for (int place : none) {
            y.mark(place);
            Check.due("same(" + place + ")", x.same(place), false);
            Check.due("same(" + place + ")", y.same(place), false);
        }
    }

    /** Promise 14: "What the POINTER is at: 0 (what): 0 NOTHING .. 8 a PRIMITIVE". */
    private static void kindsAt() {
        Check.sentence("P14a what the POINTER is at");
        String[] texts = {"(define a 1)", "0", "#f", "#t", "'()", "'a", "(cons 1 2)", "(lambda () 1)", "read"};
        for (int kind = 0; kind < texts.length; kind++) {
            Check.due("at(0) of " + texts[kind], Check.worked(texts[kind], 0).at(0), kind);
        }
        Check.due("new", new BracketTongue().at(0), 0);
        Check.due("not run", Check.built("5").at(0), 0);
    }

    /** "1: the INTEGER; the number of the NAME (from 0 on ..); of a PROCEDURE how many it gets; of a PRIMITIVE likewise;
     * else 0." */
    private static void numbersAt() {
        Check.sentence("P14b the number of what it is at");
        numberIs("2147483647", MOST);
        numberIs("-2147483648", LEAST);
        numberIs("-1", -1);
        numberIs("(define a 7)", 0);
        numberIs("5 #f", 0);
        numberIs("5 #t", 0);
        numberIs("5 '()", 0);
        numberIs("'(5)", 0);
        numberIs("(lambda () 1)", 0);
        numberIs("(lambda (a b c d e f g h) 1)", 8);
        numberIs("read", 0);
        for (String one : "car cdr pair? null? integer? procedure? not emit".split(" ")) {
            numberIs(one, 1);
        }
        for (String two : "cons set-car! set-cdr! eq? + - * quotient remainder = <".split(" ")) {
            numberIs(two, 2);
        }
        Check.sentence("P14c the number of a NAME, as all are met along the text");
        numberIs("(quote quote)", 0);
        numberIs("'a", 1);
        numberIs("(quote a)", 1);
        numberIs("'a 'b 'a", 1);
        numberIs("; b\n(define car-of car) 'car", 2);
        numberIs("'(if x) 'y", 3);
        numberIs("(lambda (p q) p) (let ((r 1)) r) 'r", 4);
        numberIs("''z (car (cdr ''z))", 1);
        StringBuilder all = new StringBuilder("'(");
        for (int i = 0; i < 748; i++) {
            all.append((char) ('a' + i / 36)).append("abcdefghijklmnopqrstuvwxyz0123456789".charAt(i % 36)).append(" ");
        }
        BracketTongue x = Check.worked(all + ")'zz", 0);
        Check.due("the last of very many NAMES", x.at(1), 749);
        x = Check.worked(all + ")", 0);
        x.go(1);
        x.go(0);
        Check.due("the second of them", x.at(1), 2);
    }

    private static void numberIs(String text, int number) {
        Check.due("at(1) of " + text, Check.worked(text, 0).at(1), number);
    }

    /** "NONE for another what." */
    private static void atAnotherWhat() {
        Check.sentence("P14d NONE for another what");
        String[] texts = {"", "5", "#f", "'()", "'a", "'(1)", "(lambda (a) 1)", "car"};
        for (String text : texts) {
            BracketTongue x = Check.worked(text, 0);
            for (int what : ANOTHER_WHAT) {
                Check.due("at(" + what + ") of " + text, x.at(what), NONE);
            }
        }
    }

    private static void countsAre(String when, BracketTongue x, int... due) {
        for (int what = 0; what < due.length; what++) {
            Check.due(when + ": count(" + what + ")", x.count(what), due[what]);
        }
    }

    /** Promise 15: "0 bytes of the tape .. 11 what the latest RUN answered since then (NONE)". */
    private static void counts() {
        Check.sentence("P15a the counts");
        BracketTongue x = new BracketTongue();
        countsAre("new", x, 0, 0, 0, 0, 0, 0, 0, 0, 0, 0, 0, NONE);
        Check.build(x, "(define a (lambda () 1)) )");
        countsAre("with a fault alone", x, 0, 0, 0, 0, 0, 0, 0, 0, 0, 0, 0, NONE);
        Check.build(x, "");
        countsAre("empty", x, 0, 1, 0, 0, 0, 0, 0, 0, 0, 0, 0, NONE);
        x.run(5);
        countsAre("empty, through", x, 0, 1, 0, 0, 0, 0, 0, 0, 0, 0, 0, 0);
        Check.build(x, "(define a (lambda (n) (emit n) (+ n (read)))) (define b (cons 1 2)) (define a a) (a 5) (a 6) (a #t) 1");
        countsAre("built", x, 0, 1, 7, 0, 2, 1, 0, 0, 0, 0, 0, NONE);
        x.feed(0, 0, 0, 0, 0);
        x.run(0);
        countsAre("held by a STEP", x, 20, 1, 7, 3, 2, 1, 0, 0, 2, 0, 0, 1);
        x.run(9);
        countsAre("held by read", x, 20, 1, 7, 3, 2, 1, 0, 1, 2, 1, 1, 2);
        x.input(7);
        x.input(8);
        x.input(9);
        countsAre("with INPUTS", x, 20, 1, 7, 3, 2, 1, 3, 1, 2, 1, 1, 2);
        x.run(9);
        countsAre("behind an ERROR", x, 20, 1, 7, 5, 2, 1, 1, 2, 2, 1, 3, 13);
        x.clear();
        countsAre("cleared", x, 20, 1, 7, 5, 2, 1, 1, 0, 2, 1, 3, 13);
        x.run(20001);
        countsAre("behind a RUN that is refused", x, 20, 1, 7, 5, 2, 1, 1, 0, 2, 1, 3, 13);
        x.restart();
        countsAre("restarted", x, 20, 1, 7, 0, 2, 1, 0, 0, 0, 0, 0, NONE);
        x.build(20);
        countsAre("behind a fault", x, 0, 1, 7, 0, 2, 1, 0, 0, 0, 0, 0, NONE);
    }

    /** "NONE for another what." */
    private static void countOfAnotherWhat() {
        Check.sentence("P15b NONE for another what");
        int[] another = {-1, -2, -12, 12, 13, 100, LEAST, MOST};
        BracketTongue x = new BracketTongue();
        BracketTongue y = midway();
        for (int what : another) {
            Check.due("count(" + what + ")", x.count(what), NONE);
            Check.due("count(" + what + ")", y.count(what), NONE);
        }
    }
}
