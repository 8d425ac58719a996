import java.nio.charset.StandardCharsets;
import java.util.Arrays;

/** What the tests share: counting answers that are not due, and bringing texts to the tape. */
final class Check {
    private static int wrong = 0;
    private static int asked = 0;
    private static int sentences = 0;
    private static int askedBefore = 0;
    private static String sentence = "";

    private Check() { }

    /** What is asked from here on belongs to this sentence of the document, which is told with a wrong answer. */
    static void sentence(String number) {
        endSentence();
        sentence = "[" + number + "] ";
        sentences++;
        askedBefore = asked;
    }

    private static void endSentence() {
        if (!sentence.isEmpty() && asked == askedBefore) {
            wrong++;
            System.out.println(sentence + "nothing was asked");
        }
        sentence = "";
    }

    static void due(String what, long got, long want) {
        asked++;
        if (got != want) {
            wrong++;
            System.out.println(sentence + what + " answered " + got + ", due is " + want);
        }
    }

    static void due(String what, String got, String want) {
        asked++;
        if (!got.equals(want)) {
            wrong++;
            System.out.println(sentence + what + " shows\n  " + got + "\n  due is\n  " + want);
        }
    }

    static void due(String what, boolean got, boolean want) {
        due(what, got ? 1 : 0, want ? 1 : 0);
    }

    /** Prints the sum and ends the test's process with 1 if an answer was wrong. */
    static void end(String test) {
        endSentence();
        String of = sentences == 0 ? "" : " of " + sentences + " sentences";
        System.out.println(test + ": " + asked + " answers asked" + of + ", " + wrong + " not as due");
        if (wrong != 0) {
            System.exit(1);
        }
    }

    /**
     * All that an object shows without being changed by the asking, in some 30 calls: a call that is refused
     * leaves it as it is.
     */
    static String seen(BracketTongue x) {
        StringBuilder all = new StringBuilder("tape " + x.count(0) + " fault " + x.fault(0) + " " + x.fault(1));
        return all.append(' ').append(worked(x)).toString();
    }

    /** Likewise, but for the tape and the fault: what a build with a fault leaves as it is. */
    static String worked(BracketTongue x) {
        StringBuilder all = new StringBuilder("counts");
        for (int what = 1; what <= 11; what++) {
            all.append(' ').append(x.count(what));
        }
        all.append(" at ").append(x.at(0)).append(' ').append(x.at(1)).append(" same");
        for (int place = 0; place < 4; place++) {
            all.append(' ').append(x.same(place));
        }
        all.append(" outputs");
        for (int i = 0; i < Math.min(10, x.count(7)); i++) {
            all.append(' ').append(x.output(i));
        }
        return all.toString();
    }

    static int[] fives(String text) {
        byte[] bytes = text.getBytes(StandardCharsets.ISO_8859_1);
        byte[] padded = Arrays.copyOf(bytes, (bytes.length + 19) / 20 * 20);
        Arrays.fill(padded, bytes.length, padded.length, (byte) ' ');
        int[] numbers = new int[padded.length / 4];
        for (int i = 0; i < padded.length; i++) {
            numbers[i / 4] = numbers[i / 4] << 8 | (padded[i] & 255);
        }
        return numbers;
    }

    /** Feeds a text (the tape must be empty) and builds just it. */
    static int build(BracketTongue x, String text) {
        int[] numbers = fives(text);
        for (int i = 0; i < numbers.length; i += 5) {
            x.feed(numbers[i], numbers[i + 1], numbers[i + 2], numbers[i + 3], numbers[i + 4]);
        }
        return x.build(text.length());
    }

    static BracketTongue built(String text) {
        BracketTongue x = new BracketTongue();
        due("build of " + shown(text), build(x, text), 0);
        return x;
    }

    /** The text must have just this fault at just this place. */
    static void fault(String text, int kind, int place) {
        BracketTongue x = new BracketTongue();
        due("build of " + shown(text), build(x, text), kind == 0 ? 0 : -1);
        due("fault(0) of " + shown(text), x.fault(0), kind);
        due("fault(1) of " + shown(text), x.fault(1), kind == 0 ? -1 : place);
    }

    static void fine(String text) {
        fault(text, 0, -1);
    }

    /** A text that is worked by one run, with its answer. */
    static BracketTongue worked(String text, int answer) {
        BracketTongue x = built(text);
        due("run of " + shown(text), x.run(20000), answer);
        return x;
    }

    static void integer(String text, int value) {
        BracketTongue x = worked(text, 0);
        due("at(0) of " + shown(text), x.at(0), 1);
        due("at(1) of " + shown(text), x.at(1), value);
    }

    static void kind(String text, int kind) {
        due("at(0) of " + shown(text), worked(text, 0).at(0), kind);
    }

    static String times(String part, int howOften) {
        StringBuilder all = new StringBuilder();
        for (int i = 0; i < howOften; i++) {
            all.append(part);
        }
        return all.toString();
    }

    static String shown(String text) {
        return text.length() <= 100 ? text : text.substring(0, 100) + " ..";
    }
}
