/** The boundaries of A TICK: what comes first at one tick. Each has a test of its own. */
public final class TermTickTest {
    public static void main(String[] args) {
        Check c = new Check();
        leftBeforeTheNextBegins(c);
        leftAtItsTickAndNotBefore(c);
        stillSendingBeforeThatTick(c);
        lostBeforeThatTick(c);
        leftByPorts(c);
        leftByTicksBeforePorts(c);
        eachPortByItself(c);
        firstAndLastPort(c);
        everyPortWaits(c);
        oneWaitsWhileTheOtherSends(c);
        onlyWithALink(c);
        notWhileSending(c);
        ranksFromSevenDown(c);
        aClosedRankLetsOthersPass(c);
        aRankBelowZeroLetsOthersPass(c);
        firstOfTheQueueAlone(c);
        endsTimeTicksLater(c);
        creditIsMovedAfterTheBegin(c);
        creditOfTheTickOfTheBegin(c);
        creditOfTheTickOfTheEnd(c);
        noTickNothingBegins(c);
        frameOfTheTickAtHand(c);
        c.end();
    }

    private static void leftBeforeTheNextBegins(Check c) {
        c.sentence("at first frames whose sending ends at t have LEFT, then a port begins at the same tick");
        Gates x = Gates.linked(c, 2, 100);
        for (int i = 0; i < 3; i++) {
            x.frame(1, 1, 0, 64);
        }
        x.run(22).is(3);
        x.departed(0, 1, 2, 0, 7);
        x.departed(1, 2, 2, 7, 14);
        x.departed(2, 3, 2, 14, 21);
    }

    private static void leftAtItsTickAndNotBefore(Check c) {
        c.sentence("frames whose sending ends at t have LEFT at t");
        Gates x = Gates.linked(c, 2, 100);
        x.frame(1, 1, 0, 64);
        x.run(7).is(0);
        x.left(-1, 0).is(0);
        x.left(0, 0).is(-1);
        x.run(0).is(0);
        x.left(-1, 0).is(0);
        x.run(1).is(1);
        x.left(-1, 0).is(1);
        x.departed(0, 1, 2, 0, 7);
        x.run(1).is(0);
    }

    private static void stillSendingBeforeThatTick(Check c) {
        c.sentence("until the tick at which it has LEFT has gone by the port is sending");
        Gates x = Gates.linked(c, 2, 100);
        x.frame(1, 1, 0, 64);
        x.link(2, 99).is(0);
        x.run(1);
        x.link(2, 100).is(-3);
        x.run(6);
        x.link(2, 100).is(-3);
        x.run(1).is(1);
        x.link(2, 100).is(0);
        x.departed(0, 1, 2, 0, 7);
    }

    private static void lostBeforeThatTick(Check c) {
        c.sentence("one that it is sending is dropped, up to the tick at which it has LEFT");
        Gates x = Gates.linked(c, 2, 100);
        x.frame(1, 1, 0, 64);
        x.run(7).is(0);
        x.link(2, 0).is(1);
        x.run(100).is(0);
        x.drops(0, 0, 0, 1);
        Gates y = Gates.linked(c, 2, 100);
        y.frame(1, 1, 0, 64);
        y.run(8).is(1);
        y.link(2, 0).is(0);
        y.drops(0, 0, 0, 0);
    }

    // Port 4 began first, port 2 last; all end at tick 12.
    private static void leftByPorts(Check c) {
        c.sentence("have LEFT (by ports)");
        Gates x = new Gates(c, 4);
        x.link(1, 100);
        x.link(4, 56);
        x.link(3, 112);
        x.link(2, 672);
        x.learn(2, 2, -1);
        x.learn(3, 3, -1);
        x.learn(4, 4, -1);
        x.frame(1, 4, 0, 64).is(1);
        x.run(6);
        x.frame(1, 3, 0, 64).is(2);
        x.run(5);
        x.frame(1, 2, 0, 64).is(3);
        x.run(1).is(0);
        x.run(1).is(3);
        x.departed(0, 3, 2, 11, 12);
        x.departed(1, 2, 3, 6, 12);
        x.departed(2, 1, 4, 0, 12);
    }

    private static void leftByTicksBeforePorts(Check c) {
        c.sentence("tick after tick, at each of them by ports");
        Gates x = new Gates(c, 3);
        x.link(1, 100);
        x.link(2, 336);
        x.link(3, 672);
        x.frame(1, 9, 0, 64);
        x.frame(1, 9, 0, 64);
        x.run(5).is(4);
        x.departed(0, 1, 3, 0, 1);
        x.departed(1, 1, 2, 0, 2);
        x.departed(2, 2, 3, 1, 2);
        x.departed(3, 2, 2, 2, 4);
    }

    private static void eachPortByItself(Check c) {
        c.sentence("then each port, in order: none waits for another one");
        Gates x = Gates.linked(c, 16, 672);
        x.frame(16, 1, 0, 64);
        x.frame(1, 1, 0, 64);
        x.run(3).is(30);
        for (int i = 0; i < 16; i++) {
            x.departed(i, i < 15 ? 1 : 2, i + 1, 0, 1);
        }
        for (int i = 16; i < 30; i++) {
            x.departed(i, 2, i - 14, 1, 2);
        }
    }

    // Each sends alone, so that nothing else has a port looked at in each tick.
    private static void firstAndLastPort(Check c) {
        int[] ports = {1, 16};
        for (int port : ports) {
            c.sentence("each port: port " + port + " alone");
            Gates x = new Gates(c, 16);
            x.link(5, 100);
            x.link(port, 100);
            x.frame(5, 1, 0, 64);
            x.frame(5, 1, 0, 64);
            x.run(100).is(2);
            x.departed(0, 1, port, 0, 7);
            x.departed(1, 2, port, 7, 14);
        }
    }

    private static void everyPortWaits(Check c) {
        c.sentence("each port that is not sending: each tick, also if all ports have a frame that waits");
        Gates x = Gates.linked(c, 2, 672);
        x.gate(1, 0, 13, 14);
        x.gate(2, 0, 10, 11);
        x.frame(2, 1, 0, 64);
        x.frame(1, 1, 0, 64);
        x.run(100).is(2);
        x.departed(0, 2, 2, 10, 11);
        x.departed(1, 1, 1, 13, 14);
    }

    private static void oneWaitsWhileTheOtherSends(Check c) {
        c.sentence("each port that is not sending: each tick, also while all other ones are sending");
        Gates x = Gates.linked(c, 2, 672);
        x.link(1, 10);
        x.gate(2, 0, 10, 11);
        x.frame(2, 1, 0, 64);
        x.frame(1, 1, 0, 64);
        x.run(100).is(2);
        x.departed(0, 2, 2, 10, 11);
        x.departed(1, 1, 1, 0, 68);
    }

    private static void onlyWithALink(Check c) {
        c.sentence("each port with a LINK: what it lost is not sent later");
        Gates x = Gates.linked(c, 2, 100);
        x.frame(1, 1, 0, 64);
        x.frame(1, 1, 7, 64);
        x.link(2, 0).is(2);
        x.run(10).is(0);
        x.link(2, 100);
        x.run(10).is(0);
        x.left(-1, 0).is(0);
    }

    private static void notWhileSending(Check c) {
        c.sentence("that is not sending: a higher rank waits until the frame has LEFT");
        Gates x = Gates.linked(c, 2, 100);
        x.frame(1, 1, 0, 64);
        x.run(1);
        x.frame(1, 1, 7, 64);
        x.run(20).is(2);
        x.departed(0, 1, 2, 0, 7);
        x.departed(1, 2, 2, 7, 14);
    }

    private static void ranksFromSevenDown(Check c) {
        c.sentence("of the ranks, from 7 down, the first one");
        Gates x = Gates.linked(c, 2, 672);
        int[] ranks = {3, 0, 6, 1, 7, 2, 5, 4};
        for (int rank : ranks) {
            x.frame(1, 100 + rank, rank, 64);
        }
        x.run(20).is(8);
        int[] frames = {5, 3, 7, 8, 1, 6, 4, 2};
        for (int i = 0; i < 8; i++) {
            x.departed(i, frames[i], 2, i, i + 1);
        }
    }

    private static void aClosedRankLetsOthersPass(Check c) {
        c.sentence("whose QUEUE has a frame that may begin: not one whose gate is closed");
        Gates x = Gates.linked(c, 2, 672);
        x.gate(2, 7, 3, 4);
        x.frame(1, 1, 7, 64);
        for (int i = 0; i < 5; i++) {
            x.frame(1, 1, 0, 64);
        }
        x.run(10).is(6);
        int[] frames = {2, 3, 4, 1, 5, 6};
        for (int i = 0; i < 6; i++) {
            x.departed(i, frames[i], 2, i, i + 1);
        }
    }

    private static void aRankBelowZeroLetsOthersPass(Check c) {
        c.sentence("whose QUEUE has a frame that may begin: not one whose CREDIT is below 0");
        Gates x = Gates.linked(c, 2, 672);
        x.credit(2, 7, 224, 1);
        for (int i = 0; i < 2; i++) {
            x.frame(1, 1, 7, 64);
        }
        for (int i = 0; i < 3; i++) {
            x.frame(1, 1, 0, 64);
        }
        x.run(10).is(5);
        int[] frames = {1, 3, 4, 2, 5};
        for (int i = 0; i < 5; i++) {
            x.departed(i, frames[i], 2, i, i + 1);
        }
    }

    private static void firstOfTheQueueAlone(Check c) {
        c.sentence("(the first of the QUEUE alone is looked at)");
        Gates x = Gates.linked(c, 2, 672);
        x.gate(2, 7, 0, 1);
        x.frame(1, 1, 7, 65).is(1);
        x.frame(1, 1, 7, 64).is(2);
        x.frame(1, 1, 0, 64).is(3);
        x.run(2000).is(1);
        x.departed(0, 3, 2, 0, 1);
        x.gate(2, 7, 1, 3);
        x.run(2000).is(2);
        x.departed(1, 1, 2, 2001, 2003);
        x.departed(2, 2, 2, 3000, 3001);
    }

    private static void endsTimeTicksLater(Check c) {
        c.sentence("it begins, and ends TIME ticks later");
        Gates x = Gates.linked(c, 2, 67);
        x.run(5);
        x.frame(1, 1, 0, 64);
        x.frame(1, 1, 0, 100);
        x.run(100).is(2);
        x.departed(0, 1, 2, 5, 16);
        x.departed(1, 2, 2, 16, 31);
    }

    // 1 below 0 after tick 0; tick 1 still finds it so, and brings it above; tick 2 begins.
    private static void creditIsMovedAfterTheBegin(Check c) {
        c.sentence("then each CREDIT: after the ports have begun");
        Gates x = Gates.linked(c, 2, 672);
        x.credit(2, 0, 671, 1);
        for (int i = 0; i < 3; i++) {
            x.frame(1, 1, 0, 64);
        }
        x.run(10).is(3);
        x.departed(0, 1, 2, 0, 1);
        x.departed(1, 2, 2, 2, 3);
        x.departed(2, 3, 2, 3, 4);
    }

    // 6 ticks waiting bring 6 times 96; the tick of the begin takes 576 of it, so just 0 is left.
    private static void creditOfTheTickOfTheBegin(Check c) {
        c.sentence("while that rank is sending: from the tick at which it begins on");
        Gates x = Gates.linked(c, 2, 672);
        x.credit(2, 0, 96, 1);
        x.gate(2, 0, 6, 100);
        for (int i = 0; i < 3; i++) {
            x.frame(1, 1, 0, 64);
        }
        x.run(50).is(3);
        x.departed(0, 1, 2, 6, 7);
        x.departed(1, 2, 2, 7, 8);
        x.departed(2, 3, 2, 14, 15);
    }

    // Down by 200 in each of 3 ticks; the tick of the end is one of waiting and brings 24: 25 are needed.
    private static void creditOfTheTickOfTheEnd(Check c) {
        c.sentence("while that rank is sending: not at the tick at which it has LEFT");
        Gates x = Gates.linked(c, 2, 224);
        x.credit(2, 0, 24, 1);
        x.frame(1, 1, 0, 64);
        x.frame(1, 1, 0, 64);
        x.run(50).is(2);
        x.departed(0, 1, 2, 0, 3);
        x.departed(1, 2, 2, 28, 31);
    }

    private static void noTickNothingBegins(Check c) {
        c.sentence("in 0 ticks nothing begins");
        Gates x = Gates.linked(c, 2, 672);
        x.frame(1, 1, 0, 64);
        x.run(0).is(0);
        x.frame(1, 1, 7, 64);
        x.link(2, 671).is(0);
        x.link(2, 672).is(0);
        x.run(1).is(0);
        x.link(2, 671).is(-3);
        x.run(2).is(2);
        x.departed(0, 2, 2, 0, 1);
        x.departed(1, 1, 2, 1, 2);
    }

    private static void frameOfTheTickAtHand(Check c) {
        c.sentence("a frame that comes in at a time begins at that tick");
        Gates x = Gates.linked(c, 2, 100);
        x.frame(1, 1, 0, 64);
        x.run(7).is(0);
        x.frame(1, 1, 0, 64);
        x.run(100).is(2);
        x.departed(1, 2, 2, 7, 14);
        x.frame(1, 1, 0, 64);
        x.run(100).is(1);
        x.departed(2, 3, 2, 107, 114);
    }
}
