/** The ranges and limits that the promises themselves name, each with a test of its own. */
public final class LimitTest {
    public static void main(String[] args) {
        Check c = new Check();
        onePortToSixteen(c);
        fourForAnyOtherNumber(c);
        eightWindows(c);
        windowsOfTheWholeCycle(c);
        cycleOfZero(c);
        cycleOfOne(c);
        cycleOfAMillion(c);
        cycleAndWhereAWindowEnds(c);
        noTick(c);
        twoThousandTicks(c);
        howManyThereAre(c);
        theFirst5000(c);
        timeOfLearning(c);
        fixedAnew(c);
        down(c);
        fraction(c);
        offsetBy100AtMost(c);
        offsetDownwards(c);
        offsetAboveTheCycle(c);
        delays(c);
        reasons(c);
        lostLink(c);
        offers(c);
        offeredFor1000Ticks(c);
        offeredAnew(c);
        noPortBeforeItAnyMore(c);
        the512thCall(c);
        c.end();
    }

    private static void onePortToSixteen(Check c) {
        for (int ports = 1; ports <= 16; ports++) {
            hasPorts(c, ports, ports);
        }
    }

    private static void fourForAnyOtherNumber(Check c) {
        int[] others = {0, 17, -1, -4, 18, Integer.MIN_VALUE, Integer.MAX_VALUE};
        for (int ports : others) {
            hasPorts(c, ports, 4);
        }
    }

    private static void hasPorts(Check c, int asked, int due) {
        c.sentence("so many ports (1 .. 16; 4 for any other number), asked for " + asked);
        Gates x = new Gates(c, asked);
        for (int port = 1; port <= due; port++) {
            x.link(port, 672).is(0);
            x.clock(port, port).is(port);
        }
        x.link(due + 1, 672).is(-1);
        x.clock(due + 1, 1).is(-1);
        x.frame(1, 1, 0, 64).is(due > 1 ? 1 : 0);
        x.run(2).is(due - 1);
    }

    private static void eightWindows(Check c) {
        c.sentence("how many it has; -4 it has 8");
        Gates x = new Gates(c, 2);
        for (int rank = 0; rank < 8; rank += 7) {
            for (int i = 1; i <= 8; i++) {
                x.gate(2, rank, i, i + 1).is(i);
            }
            x.gate(2, rank, 0, 1).is(-4);
            x.gate(2, rank, 1, 2).is(-4);
        }
        x.gate(2, 1, 0, 1).is(1);
        x.gate(1, 0, 0, 1).is(1);
    }

    private static void windowsOfTheWholeCycle(Check c) {
        c.sentence("0 <= from < to <= the CYCLE");
        Gates x = new Gates(c, 2);
        x.gate(1, 0, 0, 1000).is(1);
        x.gate(1, 0, 0, 1).is(2);
        x.gate(1, 0, 999, 1000).is(3);
        x.gate(1, 0, -1, 1).is(-2);
        x.gate(1, 0, 0, 0).is(-2);
        x.gate(1, 0, 1000, 1000).is(-2);
        x.gate(1, 0, 1000, 1001).is(-2);
        x.gate(1, 0, 999, 1001).is(-2);
        x.cycle(1001).is(1);
        x.gate(1, 0, 1000, 1001).is(4);
    }

    private static void cycleOfZero(Check c) {
        c.sentence("ArithmeticException for 0 (if there are no WINDOWS)");
        Gates x = new Gates(c, 2);
        x.cycle(0).isArithmeticException();
        x.gate(1, 0, 0, 1001).is(-2);
        x.cycle(-1).is(-2);
        x.gate(2, 7, 0, 1).is(1);
        x.cycle(0).is(-2);
        x.cycle(-1).is(-2);
        x.gate(1, 0, 999, 1000).is(1);
    }

    private static void cycleOfOne(Check c) {
        c.sentence("the CYCLE's length: 1 is the least");
        Gates x = new Gates(c, 2);
        x.cycle(1).is(1);
        x.gate(1, 0, 0, 2).is(-2);
        x.gate(1, 0, 1, 2).is(-2);
        x.gate(1, 0, 0, 1).is(1);
        x.cycle(1).is(1);
        x.cycle(0).is(-2);
    }

    // 500 runs of 2000 ticks go round the longest CYCLE once.
    private static void cycleOfAMillion(Check c) {
        c.sentence("the CYCLE's length: 1000000 is the most");
        Gates x = Gates.linked(c, 2, 672);
        x.cycle(1000001).is(-2);
        x.cycle(1000000).is(1);
        x.gate(2, 0, 999999, 1000001).is(-2);
        x.gate(2, 0, 999999, 1000000).is(1);
        x.pass(998000);
        x.frame(1, 1, 0, 64).is(1);
        x.run(2000).is(0);
        x.run(1).is(1);
        x.left(0, 2).is(999999);
        x.left(0, 3).is(1000000);
    }

    private static void cycleAndWhereAWindowEnds(Check c) {
        c.sentence("-2 it is less than where a WINDOW ends");
        Gates x = new Gates(c, 16);
        x.gate(16, 7, 10, 500).is(1);
        x.gate(1, 0, 10, 400).is(1);
        x.gate(16, 7, 20, 30).is(2);
        x.cycle(499).is(-2);
        x.cycle(400).is(-2);
        x.gate(1, 0, 0, 1000).is(2);
        x.cycle(999).is(-2);
        x.cycle(1000).is(1);
        x.cycle(2000).is(1);
        x.cycle(1000).is(1);
        x.gate(1, 0, 0, 1001).is(-2);
    }

    private static void noTick(Check c) {
        c.sentence("so many ticks go by: 0");
        Gates x = Gates.linked(c, 2, 672);
        x.frame(1, 1, 0, 64);
        x.run(0).is(0);
        x.learn(5, 1, 1).is(-2);
        x.run(-1).is(-2);
        x.run(1).is(0);
        x.learn(5, 1, 1).is(0);
        x.run(0).is(0);
        x.run(1).is(1);
        x.departed(0, 1, 2, 0, 1);
    }

    private static void twoThousandTicks(Check c) {
        c.sentence("so many ticks go by: 2000");
        Gates x = Gates.linked(c, 2, 672);
        x.gate(2, 0, 999, 1000);
        x.frame(1, 1, 0, 64);
        x.frame(1, 1, 0, 64);
        x.run(2001).is(-2);
        x.learn(5, 1, 1).is(-2);
        x.run(2000).is(1);
        x.learn(5, 1, 2001).is(-2);
        x.learn(5, 1, 2000).is(0);
        x.run(1).is(1);
        x.departed(0, 1, 2, 999, 1000);
        x.departed(1, 2, 2, 1999, 2000);
        x.run(1999).is(0);
        x.learn(5, 1, 4000).is(1);
        x.learn(5, 1, 4001).is(-2);
    }

    private static void howManyThereAre(Check c) {
        c.sentence("i = -1 with what = 0: how many there are");
        Gates x = Gates.linked(c, 3, 672);
        x.left(-1, 0).is(0);
        x.left(-1, 1).is(-1);
        x.frame(1, 1, 0, 64);
        x.run(1);
        x.left(-1, 0).is(0);
        x.run(1).is(2);
        x.left(-1, 0).is(2);
        x.left(-1, 1).is(-1);
        x.left(-1, 2).is(-1);
        x.left(-1, 3).is(-1);
        x.left(-2, 0).is(-1);
        x.left(1, 0).is(1);
        x.left(2, 0).is(-1);
    }

    // Each of 384 frames leaves by 15 ports; the 5000th is the fifth of frame 334, which began at tick 333.
    // How many there are is read as how many LEFT, told or not.
    private static void theFirst5000(Check c) {
        c.sentence("the first 5000 are told");
        Gates x = Gates.linked(c, 16, 672);
        for (int i = 0; i < 24; i++) {
            for (int k = 0; k < 16; k++) {
                x.frame(1, 1, 0, 64);
            }
            x.run(16);
        }
        x.run(1);
        x.left(-1, 0).is(5760);
        x.departed(0, 1, 2, 0, 1);
        x.departed(4994, 333, 16, 332, 333);
        x.departed(4999, 334, 6, 333, 334);
        x.left(5000, 0).is(-1);
        x.left(5000, 4).is(-1);
        x.left(5759, 3).is(-1);
        x.left(4999, 4).is(-2);
    }

    private static void timeOfLearning(Check c) {
        c.sentence("learned at a time: -1, 0 .. the time at hand");
        Gates x = new Gates(c, 2);
        x.run(50);
        x.learn(1, 1, -2).is(-2);
        x.learn(1, 1, 51).is(-2);
        x.learn(1, 1, 0).is(0);
        x.learn(1, 2, 50).is(1);
        x.learn(1, 1, -1).is(2);
        x.learn(1, 2, 50).is(-3);
        x.learn(1, 2, 0).is(-3);
    }

    private static void fixedAnew(Check c) {
        c.sentence("-1: it is fixed there, and may be fixed elsewhere");
        Gates x = new Gates(c, 3);
        x.learn(1000, 1, -1).is(0);
        x.learn(1000, 1, -1).is(1);
        x.learn(1000, 3, -1).is(1);
        x.learn(1000, 3, 0).is(-3);
        x.learn(1000, 2, -1).is(3);
        x.learn(999, 2, 0).is(0);
    }

    private static void down(Check c) {
        c.sentence("-2 down is not 1 .. 1000");
        Gates x = new Gates(c, 2);
        x.credit(2, 7, 1, 0).is(-2);
        x.credit(2, 7, 1, 1).is(1);
        x.credit(2, 7, 1, 1000).is(1);
        x.credit(2, 7, 1, 1001).is(-2);
        x.credit(2, 7, 0, 0).is(-2);
        x.credit(2, 7, 0, 1).is(1);
        x.credit(2, 7, 0, 1000).is(1);
        x.credit(2, 7, 0, 1001).is(-2);
    }

    private static void fraction(Check c) {
        c.sentence("-2 up / down is not 0 .. 10000");
        Gates x = new Gates(c, 2);
        x.credit(1, 0, 10000, 1).is(1);
        x.credit(1, 0, 10001, 1).is(-2);
        x.credit(1, 0, 10001, 2).is(1);
        x.credit(1, 0, 20000, 2).is(1);
        x.credit(1, 0, 20001, 2).is(-2);
        x.credit(1, 0, 10000000, 1000).is(1);
        x.credit(1, 0, 10000001, 1000).is(-2);
        x.credit(1, 0, -1, 1).is(-2);
        x.credit(1, 0, -1, 1000).is(-2);
    }

    private static void offsetBy100AtMost(Check c) {
        c.sentence("an OFFSET goes towards a delay by 100 at most");
        Gates x = new Gates(c, 2);
        x.clock(1, 99).is(99);
        x.clock(1, 199).is(199);
        x.clock(1, 300).is(299);
        x.clock(1, 300).is(300);
        x.clock(1, 300).is(300);
        x.clock(1, 401).is(400);
        x.clock(1, 401).is(401);
        x.clock(2, 0).is(0);
    }

    private static void offsetDownwards(Check c) {
        c.sentence("an OFFSET goes towards a lower delay by 100 at most");
        Gates x = new Gates(c, 2);
        for (int i = 1; i <= 4; i++) {
            x.clock(2, 1000000).is(100 * i);
        }
        x.clock(2, 301).is(301);
        x.clock(2, 201).is(201);
        x.clock(2, 100).is(101);
        x.clock(2, 100).is(100);
        x.clock(2, 0).is(0);
        x.clock(2, 101).is(100);
        x.clock(2, 99).is(99);
        x.clock(2, 0).is(0);
    }

    private static void offsetAboveTheCycle(Check c) {
        c.sentence("an OFFSET goes on above the CYCLE");
        Gates x = new Gates(c, 2);
        for (int i = 1; i <= 12; i++) {
            x.clock(2, 1000000).is(100 * i);
        }
        x.cycle(30).is(1);
        x.clock(2, 1000000).is(1300);
        x.clock(1, 50).is(50);
    }

    private static void delays(Check c) {
        c.sentence("-2 the delay is not 0 .. 1000000");
        Gates x = new Gates(c, 2);
        x.clock(2, -1).is(-2);
        x.clock(2, 1000001).is(-2);
        x.clock(2, 0).is(0);
        x.clock(2, 1000000).is(100);
        x.clock(2, -1).is(-2);
        x.clock(2, 1000001).is(-2);
        x.clock(2, 1000000).is(200);
    }

    private static void reasons(Check c) {
        c.sentence("how many were dropped: what = 0 .. 3");
        Gates x = Gates.linked(c, 3, 1);
        for (int i = 0; i < 18; i++) {
            x.frame(1, 1, 0, 64);
        }
        x.filter(16, 0);
        for (int i = 0; i < 3; i++) {
            x.frame(1, 2, 0, 64);
        }
        x.learn(3, 1, -1);
        x.frame(1, 3, 0, 64);
        x.frame(1, 3, 0, 64);
        x.link(2, 0).is(16);
        x.drops(4, 3, 2, 16);
        x.dropped(-1).is(-2);
        x.dropped(4).is(-2);
    }

    private static void lostLink(Check c) {
        c.sentence("0: no LINK: all frames in its QUEUES, and one that it is sending, are dropped: how many");
        Gates x = Gates.linked(c, 2, 1);
        x.link(2, 0).is(0);
        x.link(2, 1).is(0);
        for (int rank = 0; rank < 8; rank++) {
            x.frame(1, 1, rank, 64);
            x.frame(1, 1, rank, 64);
        }
        x.run(1);
        x.link(2, 1).is(0);
        x.link(1, 0).is(0);
        x.link(2, 0).is(16);
        x.link(2, 0).is(0);
        x.drops(0, 0, 0, 16);
    }

    private static void offers(Check c) {
        c.sentence("with an offer (1 .. 100)");
        Gates x = new Gates(c, 16);
        x.service(0, 1).is(0);
        x.service(0, 100).is(0);
        x.service(1, 16).is(16);
        x.service(100, 1).is(1);
        x.service(101, 1).is(-2);
        x.service(-1, 1).is(-2);
        x.service(1, 17).is(-1);
        x.service(1, 0).is(-1);
        x.service(0, 1).is(16);
        x.service(0, 100).is(1);
        x.service(0, 2).is(0);
        x.service(0, 99).is(0);
        x.service(0, 0).is(-2);
        x.service(0, 101).is(-2);
    }

    private static void offeredFor1000Ticks(Check c) {
        c.sentence("offers that service for 1000 ticks from now on");
        Gates x = new Gates(c, 2);
        x.service(1, 1).is(1);
        x.run(1);
        x.service(2, 2).is(2);
        x.run(998);
        x.service(0, 1).is(1);
        x.service(0, 2).is(2);
        x.run(1);
        x.service(0, 1).is(0);
        x.service(0, 2).is(2);
        x.run(1);
        x.service(0, 2).is(0);
        x.run(2000);
        x.service(0, 1).is(0);
    }

    private static void offeredAnew(Check c) {
        c.sentence("from now on: offered anew, for 1000 ticks from then");
        Gates x = new Gates(c, 2);
        x.service(1, 2).is(2);
        x.run(600);
        x.service(1, 2).is(2);
        x.run(999);
        x.service(0, 1).is(2);
        x.run(1);
        x.service(0, 1).is(0);
        x.service(1, 1).is(1);
        x.service(0, 1).is(1);
    }

    private static void noPortBeforeItAnyMore(Check c) {
        c.sentence("(no port before it any more)");
        Gates x = new Gates(c, 3);
        x.service(1, 2).is(2);
        x.run(100);
        x.service(1, 3).is(3);
        x.service(0, 1).is(3);
        x.service(1, 1).is(1);
        x.service(0, 1).is(1);
        x.run(999);
        x.service(0, 1).is(1);
        x.run(1);
        x.service(0, 1).is(0);
    }

    private static void the512thCall(Check c) {
        c.sentence("an object is used for at most 512 calls: the last one is answered like the first");
        Gates x = Gates.linked(c, 2, 1);
        for (int number = 1; number <= 508; number++) {
            x.frame(1, 1, 0, 64).is(number <= 16 ? number : 0);
        }
        x.dropped(0).is(492);
        x.frame(1, 1, 7, 64).is(509);
        c.due("calls", x.callsMade(), 512);
    }
}
