/** The boundaries that the terms TIME, PORTS, LINK and FRAMES name, each with a test of its own. */
public final class TermTimeTest {
    public static void main(String[] args) {
        Check c = new Check();
        timeBeginsAtZero(c);
        portsBeginAtOne(c);
        atFirstNoLink(c);
        withoutLinkNothingComesIn(c);
        withoutLinkNothingGoesOut(c);
        speedZeroAndOne(c);
        speedTenThousand(c);
        framesBeginAtOne(c);
        framesWithoutQueueAreNumbered(c);
        firstAndLastAddress(c);
        firstAndLastRank(c);
        shortestAndLongest(c);
        timeIsUpwards(c);
        c.end();
    }

    private static void timeBeginsAtZero(Check c) {
        c.sentence("TIME is counted in ticks from 0 on");
        Gates x = Gates.linked(c, 2, 672);
        x.learn(5, 1, 1).is(-2);
        x.learn(5, 1, 0).is(0);
        x.frame(1, 1, 0, 64).is(1);
        x.run(1).is(0);
        x.learn(5, 1, 2).is(-2);
        x.learn(5, 1, 1).is(1);
        x.run(1).is(1);
        x.departed(0, 1, 2, 0, 1);
    }

    private static void portsBeginAtOne(Check c) {
        for (int ports = 1; ports <= 16; ports++) {
            c.sentence("PORTS are numbered from 1 on, here to " + ports);
            Gates x = new Gates(c, ports);
            x.link(0, 10).is(-1);
            x.link(ports + 1, 10).is(-1);
            x.link(1, 10).is(0);
            x.link(ports, 10).is(0);
        }
        c.sentence("the first and the last port are told by their numbers");
        Gates y = new Gates(c, 16);
        y.link(1, 672);
        y.link(8, 672);
        y.link(16, 672);
        y.frame(8, 1, 0, 64).is(1);
        y.run(2).is(2);
        y.departed(0, 1, 1, 0, 1);
        y.departed(1, 1, 16, 0, 1);
    }

    private static void atFirstNoLink(Check c) {
        c.sentence("a LINK is at first 0: no link");
        Gates x = new Gates(c, 16);
        for (int port = 1; port <= 16; port++) {
            x.frame(port, 1, 0, 64).is(-3);
        }
        x.link(1, 10).is(0);
        x.frame(1, 1, 0, 64).is(0);
        x.drops(0, 0, 1, 0);
    }

    private static void withoutLinkNothingComesIn(Check c) {
        c.sentence("no link: then nothing comes in there");
        Gates x = Gates.linked(c, 2, 672);
        x.frame(1, 1, 0, 64).is(1);
        x.link(1, 0).is(0);
        x.frame(1, 1, 0, 64).is(-3);
        x.run(10).is(1);
        x.link(1, 1).is(0);
        x.frame(1, 1, 0, 64).is(2);
    }

    private static void withoutLinkNothingGoesOut(Check c) {
        c.sentence("no link: then nothing goes out there");
        Gates x = Gates.linked(c, 3, 672);
        x.link(2, 0);
        x.frame(1, 1, 0, 64).is(1);
        x.run(10).is(1);
        x.departed(0, 1, 3, 0, 1);
        x.link(2, 672).is(0);
        x.run(10).is(0);
        x.frame(1, 1, 0, 64).is(2);
        x.run(10).is(2);
        x.departed(1, 2, 2, 20, 21);
        x.departed(2, 2, 3, 20, 21);
    }

    private static void speedZeroAndOne(Check c) {
        c.sentence("a speed of 0 is no LINK, of 1 it is one");
        Gates x = Gates.linked(c, 2, 100);
        x.link(1, 0).is(0);
        x.frame(1, 1, 0, 64).is(-3);
        x.link(1, 1).is(0);
        x.frame(2, 1, 0, 64).is(1);
        x.run(672).is(0);
        x.run(1).is(1);
        x.departed(0, 1, 1, 0, 672);
    }

    private static void speedTenThousand(Check c) {
        c.sentence("a speed of 10000 is the highest");
        Gates x = new Gates(c, 2);
        x.link(1, 10000).is(0);
        x.link(2, 10000).is(0);
        x.frame(1, 1, 0, 1230).is(1);
        x.frame(1, 1, 0, 1231).is(2);
        x.run(10).is(2);
        x.departed(0, 1, 2, 0, 1);
        x.departed(1, 2, 2, 1, 3);
        x.link(2, 10001).is(-2);
        x.frame(1, 1, 0, 1230).is(3);
        x.run(10).is(1);
        x.departed(2, 3, 2, 10, 11);
    }

    private static void framesBeginAtOne(Check c) {
        c.sentence("FRAMES are numbered from 1 on");
        Gates x = Gates.linked(c, 2, 672);
        x.frame(1, 1, 0, 64).is(1);
        x.frame(2, 1, 0, 64).is(2);
        x.frame(1, 2, 7, 64).is(3);
        x.run(5).is(3);
        x.left(0, 0).is(2);
        x.left(1, 0).is(3);
        x.left(2, 0).is(1);
    }

    private static void framesWithoutQueueAreNumbered(Check c) {
        c.sentence("0 if it went into no QUEUE (it has a number all the same)");
        Gates x = Gates.linked(c, 2, 1);
        x.learn(9, 1, -1);
        x.frame(1, 9, 0, 64).is(0);
        x.frame(1, 1, 0, 64).is(2);
        x.filter(16, 0);
        x.frame(1, 2, 0, 64).is(0);
        x.frame(1, 1, 0, 64).is(4);
        for (int number = 5; number <= 18; number++) {
            x.frame(1, 1, 0, 64).is(number);
        }
        x.frame(1, 1, 0, 64).is(0);
        x.frame(1, 1, 1, 64).is(20);
    }

    private static void firstAndLastAddress(Check c) {
        c.sentence("an ADDRESS is 1 .. 1000");
        Gates x = Gates.linked(c, 3, 672);
        x.learn(1, 2, 0).is(0);
        x.learn(1000, 3, 0).is(0);
        x.frame(1, 1, 0, 64).is(1);
        x.frame(1, 1000, 0, 64).is(2);
        x.frame(1, 0, 0, 64).is(-2);
        x.frame(1, 1001, 0, 64).is(-2);
        x.run(5).is(2);
        x.departed(0, 1, 2, 0, 1);
        x.departed(1, 2, 3, 0, 1);
    }

    private static void firstAndLastRank(Check c) {
        c.sentence("a RANK is 0 .. 7");
        Gates x = Gates.linked(c, 2, 672);
        x.frame(1, 1, 0, 64).is(1);
        x.frame(1, 1, 7, 64).is(2);
        x.frame(1, 1, -1, 64).is(-2);
        x.frame(1, 1, 8, 64).is(-2);
        x.run(5).is(2);
        x.departed(0, 2, 2, 0, 1);
        x.departed(1, 1, 2, 1, 2);
    }

    private static void shortestAndLongest(Check c) {
        c.sentence("the length is 64 .. 1522");
        Gates x = Gates.linked(c, 2, 1);
        x.link(2, 8);
        x.frame(1, 1, 0, 63).is(-2);
        x.frame(1, 1, 0, 1523).is(-2);
        x.frame(1, 1, 0, 64).is(1);
        x.frame(1, 1, 0, 1522).is(2);
        x.run(2000).is(2);
        x.departed(0, 1, 2, 0, 84);
        x.departed(1, 2, 2, 84, 84 + 1542);
    }

    private static void timeIsUpwards(Check c) {
        timeIs(c, 64, 672, 1);
        timeIs(c, 64, 673, 1);
        timeIs(c, 64, 671, 2);
        timeIs(c, 64, 336, 2);
        timeIs(c, 64, 335, 3);
        timeIs(c, 64, 2, 336);
        timeIs(c, 65, 672, 2);
        timeIs(c, 1522, 10000, 2);
        timeIs(c, 1522, 6168, 2);
        timeIs(c, 1522, 6167, 3);
        timeIs(c, 1522, 9, 1371);
    }

    private static void timeIs(Check c, int length, long speed, int time) {
        c.sentence("8 (" + length + " + 20) bits divided by " + speed + ", upwards");
        Gates x = Gates.linked(c, 2, speed);
        x.run(17);
        x.frame(1, 1, 3, length);
        x.run(time).is(0);
        x.run(1).is(1);
        x.departed(0, 1, 2, 17, 17 + time);
    }
}
