import java.nio.charset.StandardCharsets;
import java.util.Arrays;

/** What the tests share: counting answers that are not due, and bringing texts to the tape. */
final class Check {
    private static int wrong = 0;
    private static int asked = 0;

    private Check() { }

    static void due(String what, long got, long want) {
        asked++;
        if (got != want) {
            wrong++;
            System.out.println(what + " answered " + got + ", due is " + want);
        }
    }

    static void due(String what, boolean got, boolean want) {
        due(what, got ? 1 : 0, want ? 1 : 0);
    }

    /** Prints the sum and ends the test's process with 1 if an answer was wrong. */
    static void end(String test) {
        System.out.println(test + ": " + asked + " answers asked, " + wrong + " not as due");
        if (wrong != 0) {
            System.exit(1);
        }
    }

    static int[] fives(String text) {
        byte[] bytes = text.getBytes(StandardCharsets.ISO_8859_1);
        byte[] padded = Arrays.copyOf(bytes, (bytes.length + 19) / 20 * 20);
        Arrays.fill(padded, bytes.length, padded.length, (byte) ' ');
        int[] numbers = new int[padded.length / 4];
        for (int i = 0; i < padded.length; i++) {
            numbers[i / 4] = numbers[i / 4] << 8 | (padded[i] & 255);
        }
        return numbers;
    }

    /** Feeds a text (the tape must be empty) and builds just it. */
    static int build(BracketTongue x, String text) {
        int[] numbers = fives(text);
        for (int i = 0; i < numbers.length; i += 5) {
            x.feed(numbers[i], numbers[i + 1], numbers[i + 2], numbers[i + 3], numbers[i + 4]);
        }
        return x.build(text.length());
    }

    static BracketTongue built(String text) {
        BracketTongue x = new BracketTongue();
        due("build of " + shown(text), build(x, text), 0);
        return x;
    }

    /** The text must have just this fault at just this place. */
    static void fault(String text, int kind, int place) {
        BracketTongue x = new BracketTongue();
        due("build of " + shown(text), build(x, text), kind == 0 ? 0 : -1);
        due("fault(0) of " + shown(text), x.fault(0), kind);
        due("fault(1) of " + shown(text), x.fault(1), kind == 0 ? -1 : place);
    }

    static void fine(String text) {
        fault(text, 0, -1);
    }

    /** A text that is worked by one run, with its answer. */
    static BracketTongue worked(String text, int answer) {
        BracketTongue x = built(text);
        due("run of " + shown(text), x.run(20000), answer);
        return x;
    }

    static void integer(String text, int value) {
        BracketTongue x = worked(text, 0);
        due("at(0) of " + shown(text), x.at(0), 1);
        due("at(1) of " + shown(text), x.at(1), value);
    }

    static void kind(String text, int kind) {
        due("at(0) of " + shown(text), worked(text, 0).at(0), kind);
    }

    static String times(String part, int howOften) {
        StringBuilder all = new StringBuilder();
        for (int i = 0; i < howOften; i++) {
            all.append(part);
        }
        return all.toString();
    }

    static String shown(String text) {
        return text.length() <= 100 ? text : text.substring(0, 100) + " ..";
    }
}
