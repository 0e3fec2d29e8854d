/** The boundaries of STREAMS and their RATES, each with a test of its own. */
public final class TermStreamTest {
    public static void main(String[] args) {
        Check c = new Check();
        thousandsOfFrames(c);
        thousandsOfAnswers(c);
        unusedIsNotSaved(c);
        rateOfZero(c);
        rateOfOne(c);
        noneAnyMore(c);
        noneAtFirst(c);
        highestRate(c);
        rateBelowWhatWasTaken(c);
        rateAboveWhatWasTaken(c);
        droppedAtOnce(c);
        droppedByTheRateFirst(c);
        droppedAreNotTaken(c);
        firstAndLastStream(c);
        neighboursOfAStream(c);
        oneStreamByManyPorts(c);
        c.end();
    }

    private static void thousandsOfFrames(Check c) {
        c.sentence("so many are taken in each thousand ticks (0 .. 999, 1000 .. 1999, ..)");
        Gates x = Gates.linked(c, 2, 672);
        x.filter(8, 2).is(0);
        x.frame(1, 1, 0, 64).is(1);
        x.run(999);
        x.frame(1, 1, 0, 64).is(2);
        x.frame(1, 1, 0, 64).is(0);
        x.run(1);
        x.frame(1, 1, 0, 64).is(4);
        x.frame(1, 1, 0, 64).is(5);
        x.frame(1, 1, 0, 64).is(0);
        x.run(999);
        x.frame(1, 1, 0, 64).is(0);
        x.run(1);
        x.frame(1, 1, 0, 64).is(8);
        x.drops(0, 3, 0, 0);
    }

    private static void thousandsOfAnswers(Check c) {
        c.sentence("how many of its frames were taken in the thousand ticks at hand");
        Gates x = Gates.linked(c, 2, 672);
        x.filter(8, 5).is(0);
        x.frame(1, 1, 0, 64);
        x.run(500);
        x.frame(1, 1, 0, 64);
        x.filter(8, 5).is(2);
        x.run(499);
        x.frame(1, 1, 0, 64);
        x.filter(8, 5).is(3);
        x.run(1);
        x.filter(8, 5).is(0);
        x.frame(1, 1, 0, 64);
        x.filter(8, 5).is(1);
        x.run(2000);
        x.filter(8, 5).is(0);
    }

    private static void unusedIsNotSaved(Check c) {
        c.sentence("what a thousand ticks did not take is not taken later");
        Gates x = Gates.linked(c, 2, 672);
        x.filter(8, 1);
        x.run(2000);
        x.frame(1, 1, 0, 64).is(1);
        x.frame(1, 1, 0, 64).is(0);
    }

    private static void rateOfZero(Check c) {
        c.sentence("a RATE of 0 takes none");
        Gates x = Gates.linked(c, 2, 672);
        x.filter(8, 0).is(0);
        x.frame(1, 1, 0, 64).is(0);
        x.run(1000).is(0);
        x.frame(1, 1, 0, 64).is(0);
        x.filter(8, 0).is(0);
        x.drops(0, 2, 0, 0);
    }

    private static void rateOfOne(Check c) {
        c.sentence("a RATE of 1 takes one");
        Gates x = Gates.linked(c, 2, 672);
        x.filter(8, 1).is(0);
        x.frame(1, 1, 0, 64).is(1);
        x.frame(1, 1, 0, 64).is(0);
        x.filter(8, 1).is(1);
    }

    private static void noneAnyMore(Check c) {
        c.sentence("-1: none any more");
        Gates x = Gates.linked(c, 2, 672);
        x.filter(8, 0).is(0);
        x.frame(1, 1, 0, 64).is(0);
        x.filter(8, -1).is(0);
        for (int number = 2; number <= 10; number++) {
            x.frame(1, 1, 0, 64).is(number);
        }
        x.filter(8, -1).is(9);
        x.filter(8, 9).is(9);
        x.frame(1, 1, 0, 64).is(0);
        x.drops(0, 2, 0, 0);
    }

    private static void noneAtFirst(Check c) {
        c.sentence("one may have a RATE: at first none has");
        Gates x = Gates.linked(c, 2, 672);
        for (int number = 1; number <= 200; number++) {
            x.frame(1, 1, 0, 64).is(number);
            x.run(1);
        }
        x.filter(8, -1).is(200);
        x.drops(0, 0, 0, 0);
    }

    private static void highestRate(Check c) {
        c.sentence("a RATE has no upper limit");
        Gates x = Gates.linked(c, 2, 672);
        x.filter(8, Long.MAX_VALUE).is(0);
        x.frame(1, 1, 0, 64).is(1);
        x.filter(8, 1L << 32).is(1);
        x.frame(1, 1, 0, 64).is(2);
        x.filter(8, (1L << 32) - 1).is(2);
        x.frame(1, 1, 0, 64).is(3);
    }

    private static void rateBelowWhatWasTaken(Check c) {
        c.sentence("a RATE below what was taken takes no more until the next thousand ticks");
        Gates x = Gates.linked(c, 2, 672);
        x.frame(1, 1, 0, 64).is(1);
        x.frame(1, 1, 0, 64).is(2);
        x.filter(8, 1).is(2);
        x.frame(1, 1, 0, 64).is(0);
        x.run(999);
        x.frame(1, 1, 0, 64).is(0);
        x.run(1);
        x.frame(1, 1, 0, 64).is(5);
        x.frame(1, 1, 0, 64).is(0);
    }

    private static void rateAboveWhatWasTaken(Check c) {
        c.sentence("a RATE above what was taken takes the rest");
        Gates x = Gates.linked(c, 2, 672);
        x.frame(1, 1, 0, 64).is(1);
        x.frame(1, 1, 0, 64).is(2);
        x.filter(8, 3).is(2);
        x.frame(1, 1, 0, 64).is(3);
        x.frame(1, 1, 0, 64).is(0);
    }

    private static void droppedAtOnce(Check c) {
        c.sentence("others are dropped at once");
        Gates x = Gates.linked(c, 4, 1);
        x.filter(8, 0);
        x.frame(1, 1, 0, 64).is(0);
        x.drops(0, 1, 0, 0);
        x.link(2, 0).is(0);
        x.link(3, 0).is(0);
        x.link(4, 0).is(0);
        x.frame(1, 1, 0, 64).is(0);
        x.drops(0, 2, 0, 0);
        x.link(2, 1);
        for (int number = 3; number <= 18; number++) {
            x.frame(1, 2, 0, 64).is(number);
        }
        x.frame(1, 1, 0, 64).is(0);
        x.drops(0, 3, 0, 0);
    }

    private static void droppedByTheRateFirst(Check c) {
        c.sentence("others are dropped at once: before it is looked where they go");
        Gates x = Gates.linked(c, 3, 1);
        x.link(3, 0);
        x.learn(1, 1, -1);
        x.learn(2, 3, -1);
        x.learn(4, 2, -1);
        x.filter(8, 0);
        x.filter(16, 0);
        x.filter(32, 16);
        x.frame(1, 1, 0, 64).is(0);
        x.drops(0, 1, 0, 0);
        x.frame(1, 2, 0, 64).is(0);
        x.drops(0, 2, 0, 0);
        for (int number = 3; number <= 18; number++) {
            x.frame(1, 4, 0, 64).is(number);
        }
        x.frame(1, 4, 0, 64).is(0);
        x.drops(0, 3, 0, 0);
    }

    private static void droppedAreNotTaken(Check c) {
        c.sentence("those that the RATE dropped were not taken");
        Gates x = Gates.linked(c, 2, 672);
        x.filter(8, 2);
        for (int i = 0; i < 10; i++) {
            x.frame(1, 1, 0, 64);
        }
        x.filter(8, 3).is(2);
        x.frame(1, 1, 0, 64).is(11);
        x.frame(1, 1, 0, 64).is(0);
        x.filter(8, -1).is(3);
        x.drops(0, 9, 0, 0);
    }

    private static void firstAndLastStream(Check c) {
        c.sentence("8 times the address and the rank: 8 .. 8007");
        Gates x = Gates.linked(c, 2, 672);
        x.filter(7, 0).is(-1);
        x.filter(8008, 0).is(-1);
        x.filter(8, 0).is(0);
        x.filter(8007, 0).is(0);
        x.frame(1, 1, 0, 64).is(0);
        x.frame(1, 1000, 7, 64).is(0);
        x.frame(1, 1, 1, 64).is(3);
        x.frame(1, 1000, 6, 64).is(4);
        x.filter(9, 0).is(1);
        x.filter(8006, 0).is(1);
    }

    private static void neighboursOfAStream(Check c) {
        c.sentence("a stream is an address and a rank");
        Gates x = Gates.linked(c, 2, 672);
        x.filter(8 * 5 + 7, 0).is(0);
        x.frame(1, 5, 7, 64).is(0);
        x.frame(1, 5, 6, 64).is(2);
        x.frame(1, 6, 0, 64).is(3);
        x.frame(1, 6, 7, 64).is(4);
        x.frame(1, 4, 7, 64).is(5);
        x.filter(8 * 6, 0).is(1);
        x.frame(1, 6, 0, 64).is(0);
        x.frame(1, 5, 0, 64).is(7);
        x.filter(8 * 5 + 7, -1).is(0);
        x.frame(1, 5, 7, 64).is(8);
    }

    private static void oneStreamByManyPorts(Check c) {
        c.sentence("a RATE is the stream's, whichever port its frames come in by");
        Gates x = Gates.linked(c, 3, 672);
        x.filter(8, 2);
        x.frame(1, 1, 0, 64).is(1);
        x.frame(2, 1, 0, 64).is(2);
        x.frame(3, 1, 0, 64).is(0);
        x.drops(0, 1, 0, 0);
    }
}
