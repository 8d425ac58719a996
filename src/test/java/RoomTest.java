import java.lang.management.ManagementFactory;

/**
 * What a run of calls makes must fit into its room of 7.3 million fields and elements: measured in bytes,
 * 8 for each of them, over the dearest runs that a text can ask for; and no call may throw, whatever it gets.
 */
public final class RoomTest {
    private static final com.sun.management.ThreadMXBean THREADS =
            (com.sun.management.ThreadMXBean) ManagementFactory.getThreadMXBean();
    private static final long ROOM = 7300000L * 8;

    public static void main(String[] args) {
        newObjects();
        buildsAndRestarts();
        deepFrames();
        manyCells();
        longAfter();
        Check.end("RoomTest");
    }

    private static long made() {
        return THREADS.getThreadAllocatedBytes(Thread.currentThread().getId());
    }

    private static void fits(String what, long before) {
        long bytes = made() - before;
        Check.due(what + " makes " + bytes + " bytes, which fits", bytes < ROOM, true);
    }

    private static void newObjects() {
        long before = made();
        BracketTongue x = null;
        for (int i = 0; i < 512; i++) {
            x = new BracketTongue();
        }
        fits("making 512 objects", before);
        Check.due("the last one", x.count(1), 0);
    }

    private static void buildsAndRestarts() {
        StringBuilder text = new StringBuilder("'(");
        for (int i = 0; i < 103; i++) {
            text.append(Check.times("'", 28)).append("1");
        }
        int[] numbers = Check.fives(text.append(")").toString());
        BracketTongue x = new BracketTongue();
        long before = made();
        for (int i = 0; i < 3; i++) {
            for (int j = 0; j < numbers.length; j += 5) {
                x.feed(numbers[j], numbers[j + 1], numbers[j + 2], numbers[j + 3], numbers[j + 4]);
            }
            x.build(2900);
        }
        for (int i = 0; i < 40; i++) {
            x.restart();
            x.run(20000);
        }
        fits("building and restarting large data", before);
    }

    private static void deepFrames() {
        String call = Check.times("(g 1 1 1 1 1 1 1 ", 25);
        BracketTongue x = Check.built("(define g (lambda (a b c d e f h i) i)) (define f (lambda (n) " + call
                + "(f (+ n 1))" + Check.times(")", 25) + ")) (f 0)");
        long before = made();
        for (int i = 0; i < 200; i++) {
            Check.due("deep frames", x.run(20000), 17);
            x.restart();
        }
        fits("200 runs of deep frames", before);
    }

    private static void manyCells() {
        BracketTongue x = Check.built("(define f (lambda (a b c d) (lambda () a b c d) (f a b c d))) (f 1 2 3 4)");
        long before = made();
        for (int i = 0; i < 200; i++) {
            Check.due("many cells", x.run(20000), 16);
            x.restart();
        }
        fits("200 runs of many cells", before);
    }

    /** Past 512 calls answers are free, but there still must be some. */
    private static void longAfter() {
        BracketTongue x = Check.built("(define f (lambda (n) (emit (read)) (f n))) (f 1)");
        long before = made();
        for (int i = -1000; i < 1000; i++) {
            x.input(i);
            x.run(i);
            x.output(i);
            x.global(i);
            x.go(i);
            x.mark(i);
            x.same(i);
            x.at(i);
            x.count(i);
            x.fault(i);
            x.feed(i, i, i, i, i);
            x.build(i);
            x.clear();
            x.restart();
        }
        fits("28,000 calls of all kinds", before);
    }
}
