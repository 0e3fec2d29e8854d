/** The boundaries of CREDITS, each with a test of its own. At a speed of 10 a frame of 64 octets takes 68 ticks. */
public final class TermCreditTest {
    public static void main(String[] args) {
        Check c = new Check();
        atFirstZero(c);
        zeroIsNotBelowZero(c);
        aPartBelowZero(c);
        aThousandthBelowZero(c);
        restIsKept(c);
        downBySpeedLessTheFraction(c);
        fractionOfTheSpeed(c);
        fractionAboveTheSpeed(c);
        upWhileTheQueueHasAFrame(c);
        upWhileAnotherRankSends(c);
        upWhileItsGateIsClosed(c);
        upLikewiseWithAnEmptyQueue(c);
        toZeroAtMost(c);
        toZeroAtMostInOneTick(c);
        otherwiseItIsZero(c);
        zeroStaysZero(c);
        keptIfNoTickIsBetween(c);
        zeroAfterALostLink(c);
        belowZeroAfterALostLink(c);
        upZeroNoMore(c);
        shapedAgainAfterNoMore(c);
        shapedWithCreditZero(c);
        otherRanksAndPorts(c);
        firstAndLastRankOfFirstAndLastPort(c);
        leastSpeed(c);
        leastAndMostFraction(c);
        c.end();
    }

    private static Gates ofSpeedTen(Check c) {
        return Gates.linked(c, 2, 10);
    }

    private static void frames(Gates x, int rank, int count) {
        for (int i = 0; i < count; i++) {
            x.frame(1, 1, rank, 64);
        }
    }

    /** Asks for the ticks at which the first frames, all of port 2 and of 68 ticks, began. */
    private static void begins(Gates x, long... ticks) {
        for (int i = 0; i < ticks.length; i++) {
            x.departed(i, i + 1, 2, ticks[i], ticks[i] + 68);
        }
    }

    private static void atFirstZero(Check c) {
        c.sentence("it has a CREDIT, at first 0: the first frame begins at once");
        Gates x = ofSpeedTen(c);
        x.credit(2, 3, 1, 1000).is(1);
        frames(x, 3, 2);
        x.run(2000).is(1);
        begins(x, 0);
    }

    // Down by 5 in 68 ticks, up by 5 in 68 more: just 0 at tick 136, and not before.
    private static void zeroIsNotBelowZero(Check c) {
        c.sentence("its frames may begin only if that is not below 0: 0 is not");
        Gates x = ofSpeedTen(c);
        x.credit(2, 3, 5, 1).is(1);
        frames(x, 3, 3);
        x.run(2000).is(3);
        begins(x, 0, 136, 272);
    }

    // Down by 6 1/2 in 68 ticks is 442; 126 times 3 1/2 is 441, so it is -1 at tick 194.
    private static void aPartBelowZero(Check c) {
        c.sentence("its frames may begin only if that is not below 0: -1 is");
        Gates x = ofSpeedTen(c);
        x.credit(2, 3, 7, 2).is(1);
        frames(x, 3, 2);
        x.run(2000).is(2);
        begins(x, 0, 195);
    }

    // Down by a thousandth in each of 68 ticks: below 0 at tick 68, above at 69.
    private static void aThousandthBelowZero(Check c) {
        c.sentence("exact fractions: a few thousandths below 0 are below 0");
        Gates x = ofSpeedTen(c);
        x.credit(2, 3, 9999, 1000).is(1);
        frames(x, 3, 3);
        x.run(2000).is(3);
        begins(x, 0, 69, 137);
    }

    // 2 1/2 is left at tick 195; so only 439 1/2 are to be regained after 263, in 126 ticks.
    private static void restIsKept(Check c) {
        c.sentence("what is above 0 is kept while the QUEUE has a frame");
        Gates x = ofSpeedTen(c);
        x.credit(2, 3, 7, 2).is(1);
        frames(x, 3, 3);
        x.run(2000).is(3);
        begins(x, 0, 195, 389);
    }

    // 64 octets at 100 take 7 ticks: down by 80 in each is 560, up by 20 takes 28.
    private static void downBySpeedLessTheFraction(Check c) {
        c.sentence("while that rank is sending: down by speed less up / down");
        Gates x = Gates.linked(c, 2, 100);
        x.credit(2, 3, 60, 3).is(1);
        frames(x, 3, 2);
        x.run(2000).is(2);
        x.departed(0, 1, 2, 0, 7);
        x.departed(1, 2, 2, 35, 42);
    }

    private static void fractionOfTheSpeed(Check c) {
        c.sentence("speed less up / down may be 0");
        Gates x = ofSpeedTen(c);
        x.credit(2, 3, 10000, 1000).is(1);
        frames(x, 3, 3);
        x.run(2000).is(3);
        begins(x, 0, 68, 136);
    }

    // Up by 10 in each of 68 ticks while sending; then at a higher speed that CREDIT is used up.
    private static void fractionAboveTheSpeed(Check c) {
        c.sentence("speed less up / down may be below 0: then it goes up");
        Gates x = ofSpeedTen(c);
        x.credit(2, 3, 20, 1).is(1);
        frames(x, 3, 4);
        x.gate(2, 3, 0, 68).is(1);
        x.run(69).is(1);
        x.link(2, 672).is(0);
        x.gate(2, 3, 69, 72).is(2);
        x.run(100).is(2);
        x.departed(1, 2, 2, 69, 70);
        x.departed(2, 3, 2, 70, 71);
    }

    // 68 ticks of another rank save 340, as much as one frame takes: two go one after the other.
    private static void upWhileTheQueueHasAFrame(Check c) {
        c.sentence("otherwise, if its QUEUE has a frame, up by up / down");
        Gates x = ofSpeedTen(c);
        x.credit(2, 3, 5, 1).is(1);
        frames(x, 4, 1);
        frames(x, 3, 3);
        x.run(2000).is(4);
        begins(x, 0, 68, 136, 272);
    }

    // Its own frame costs 340, the other rank's 68 ticks bring it back, so it is first again.
    private static void upWhileAnotherRankSends(Check c) {
        c.sentence("up by up / down also while another rank of the port is sending");
        Gates x = ofSpeedTen(c);
        x.credit(2, 3, 5, 1).is(1);
        frames(x, 3, 1);
        frames(x, 2, 1);
        frames(x, 3, 1);
        frames(x, 2, 1);
        x.run(2000).is(4);
        begins(x, 0, 68, 136, 204);
    }

    // 100 ticks before the WINDOW save 500: 160 of it are left after the first frame.
    private static void upWhileItsGateIsClosed(Check c) {
        c.sentence("up by up / down also while its gate is closed");
        Gates x = ofSpeedTen(c);
        x.credit(2, 3, 5, 1).is(1);
        x.gate(2, 3, 100, 1000).is(1);
        frames(x, 3, 3);
        x.run(900).is(3);
        begins(x, 100, 168, 168 + 68 + 36);
    }

    private static void upLikewiseWithAnEmptyQueue(Check c) {
        c.sentence("otherwise, if it is below 0, up likewise");
        Gates x = ofSpeedTen(c);
        x.credit(2, 3, 5, 1).is(1);
        frames(x, 3, 1);
        x.run(120);
        frames(x, 3, 1);
        x.run(2000).is(1);
        begins(x, 0, 136);
    }

    // 204 below 0 after a frame: 30 times 7 bring it back, but 29 would if it had kept 1.
    private static void toZeroAtMost(Check c) {
        c.sentence("but to 0 at most");
        Gates x = ofSpeedTen(c);
        x.credit(2, 3, 7, 1).is(1);
        frames(x, 3, 1);
        x.run(500);
        frames(x, 3, 2);
        x.run(500).is(2);
        begins(x, 0, 500, 500 + 68 + 30);
    }

    // 29 times 7 is 203, and the thirtieth tick would bring it to 6.
    private static void toZeroAtMostInOneTick(Check c) {
        c.sentence("but to 0 at most, in the tick that reaches it");
        Gates x = ofSpeedTen(c);
        x.credit(2, 3, 7, 1).is(1);
        frames(x, 3, 1);
        x.run(98);
        frames(x, 3, 2);
        x.run(500).is(2);
        begins(x, 0, 98, 98 + 68 + 30);
    }

    // Another rank's 136 ticks save 952; after one frame of its own 748 are left, which one tick takes.
    private static void otherwiseItIsZero(Check c) {
        c.sentence("otherwise it is 0");
        Gates x = ofSpeedTen(c);
        x.credit(2, 3, 7, 1).is(1);
        frames(x, 4, 2);
        frames(x, 3, 1);
        x.run(205).is(3);
        frames(x, 3, 2);
        x.run(1000).is(2);
        begins(x, 0, 68, 136, 205, 205 + 68 + 30);
    }

    private static void zeroStaysZero(Check c) {
        c.sentence("otherwise it is 0: before its first frame");
        Gates x = ofSpeedTen(c);
        x.credit(2, 3, 7, 1).is(1);
        x.run(500);
        frames(x, 3, 2);
        x.run(500).is(2);
        begins(x, 500, 500 + 68 + 30);
    }

    // The QUEUE gets frames before a tick finds it empty: the 340 that were left are still there.
    private static void keptIfNoTickIsBetween(Check c) {
        c.sentence("otherwise it is 0: only in a tick");
        Gates x = ofSpeedTen(c);
        x.credit(2, 3, 5, 1).is(1);
        frames(x, 4, 2);
        frames(x, 3, 1);
        x.run(204).is(2);
        frames(x, 3, 2);
        x.run(1000).is(3);
        begins(x, 0, 68, 136, 204, 272);
    }

    // 60 ticks save 300, which go when the frame that waits is lost.
    private static void zeroAfterALostLink(Check c) {
        c.sentence("otherwise it is 0: also where a LINK was lost");
        Gates x = ofSpeedTen(c);
        x.credit(2, 3, 5, 1).is(1);
        frames(x, 4, 1);
        frames(x, 3, 1);
        x.run(60);
        x.link(2, 0).is(2);
        x.run(1);
        x.link(2, 10).is(0);
        frames(x, 3, 2);
        x.run(1000).is(2);
        x.departed(0, 3, 2, 61, 129);
        x.departed(1, 4, 2, 197, 265);
    }

    // 30 ticks of sending leave it 150 below 0, 30 more bring it back.
    private static void belowZeroAfterALostLink(Check c) {
        c.sentence("a CREDIT is moved in each tick, with a LINK or without");
        Gates x = ofSpeedTen(c);
        x.credit(2, 3, 5, 1).is(1);
        frames(x, 3, 1);
        x.run(30);
        x.link(2, 0).is(1);
        x.run(20);
        x.link(2, 10).is(0);
        frames(x, 3, 1);
        x.run(200).is(1);
        x.departed(0, 2, 2, 60, 128);
    }

    private static void upZeroNoMore(Check c) {
        c.sentence("up 0: no more");
        Gates x = ofSpeedTen(c);
        x.credit(2, 3, 1, 1000).is(1);
        frames(x, 3, 3);
        x.run(100).is(1);
        x.credit(2, 3, 0, 1).is(1);
        x.run(1000).is(2);
        begins(x, 0, 100, 168);
        Gates y = ofSpeedTen(c);
        y.credit(2, 3, 0, 1000).is(1);
        frames(y, 3, 3);
        y.run(1000).is(3);
        begins(y, 0, 68, 136);
    }

    private static void shapedAgainAfterNoMore(Check c) {
        c.sentence("up 0: no more, and SHAPED again with CREDIT 0");
        Gates x = ofSpeedTen(c);
        x.credit(2, 3, 5, 1);
        frames(x, 3, 3);
        x.run(68);
        x.credit(2, 3, 0, 1);
        x.credit(2, 3, 5, 1);
        x.run(1000);
        begins(x, 0, 68, 204);
    }

    // Half of a frame of rank 3 is sent when its CREDIT is made 0 anew: 34 ticks bring it to -170.
    private static void shapedWithCreditZero(Check c) {
        c.sentence("a rank of a port is SHAPED, with CREDIT 0");
        Gates x = ofSpeedTen(c);
        x.credit(2, 3, 5, 1).is(1);
        frames(x, 3, 2);
        x.run(34);
        x.credit(2, 3, 5, 1).is(1);
        x.run(1000).is(2);
        begins(x, 0, 102);
        Gates y = ofSpeedTen(c);
        y.credit(2, 3, 5, 1);
        frames(y, 4, 1);
        frames(y, 3, 2);
        y.run(68);
        y.credit(2, 3, 5, 1).is(1);
        y.run(1000).is(3);
        begins(y, 0, 68, 204);
    }

    private static void otherRanksAndPorts(Check c) {
        c.sentence("a rank of a port may be SHAPED: no other one is");
        Gates x = Gates.linked(c, 3, 10);
        x.credit(2, 3, 1, 1000).is(1);
        frames(x, 3, 2);
        frames(x, 2, 1);
        frames(x, 4, 1);
        x.run(1000).is(7);
        x.left(-1, 0).is(7);
        int[] byTwo = {4, 1, 3};
        int[] byThree = {4, 1, 2, 3};
        for (int i = 0; i < 3; i++) {
            x.departed(2 * i, byTwo[i], 2, 68 * i, 68 * i + 68);
        }
        for (int i = 0; i < 3; i++) {
            x.departed(2 * i + 1, byThree[i], 3, 68 * i, 68 * i + 68);
        }
        x.departed(6, byThree[3], 3, 204, 272);
    }

    private static void firstAndLastRankOfFirstAndLastPort(Check c) {
        int[] ports = {1, 16};
        for (int port : ports) {
            for (int rank = 0; rank < 8; rank += 7) {
                c.sentence("each CREDIT, by its rank's port: rank " + rank + " of port " + port);
                Gates x = new Gates(c, 16);
                x.link(5, 10);
                x.link(port, 10);
                x.credit(port, rank, 5, 1).is(1);
                x.frame(5, 1, rank, 64);
                x.frame(5, 1, rank, 64);
                x.run(1000).is(2);
                x.departed(0, 1, port, 0, 68);
                x.departed(1, 2, port, 136, 204);
            }
        }
    }

    // 672 ticks at a speed of 1 take 336.
    private static void leastSpeed(Check c) {
        c.sentence("down by speed less up / down at a speed of 1");
        Gates x = Gates.linked(c, 2, 1);
        x.credit(2, 3, 1, 2).is(1);
        frames(x, 3, 2);
        x.run(2000).is(1);
        x.run(100).is(1);
        x.departed(1, 2, 2, 1344, 2016);
    }

    private static void leastAndMostFraction(Check c) {
        c.sentence("down is 1 .. 1000, up / down 0 .. 10000");
        Gates x = Gates.linked(c, 2, 10000);
        x.credit(2, 3, 10000, 1).is(1);
        frames(x, 3, 3);
        x.run(10).is(3);
        x.departed(2, 3, 2, 2, 3);
        x.credit(2, 3, 10000000, 1000).is(1);
        frames(x, 3, 3);
        x.run(10).is(3);
        x.departed(5, 6, 2, 12, 13);
        x.credit(2, 3, 9999999, 1000).is(1);
        frames(x, 3, 3);
        x.run(10).is(3);
        x.departed(6, 7, 2, 20, 21);
        x.departed(7, 8, 2, 22, 23);
        x.departed(8, 9, 2, 23, 24);
        x.credit(2, 3, 1, 1000).is(1);
        frames(x, 3, 2);
        x.run(2000).is(1);
        x.departed(9, 10, 2, 30, 31);
    }
}
