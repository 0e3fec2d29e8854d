/** The boundaries of GATES, each with a test of its own. A frame of 64 octets takes 672 bits. */
public final class TermGateTest {
    /** At this speed the TIME of 64 octets is 1 tick. */
    private static final long ONE_TICK = 672;
    /** At this speed the TIME of 64 octets is 11 ticks. */
    private static final long ELEVEN_TICKS = 67;

    public static void main(String[] args) {
        Check c = new Check();
        fromItsFirstTick(c);
        upToItsLastTick(c);
        thatOneNot(c);
        withoutAnyAlwaysOpen(c);
        windowsOfOtherRanksAndPorts(c);
        cycleIsAtFirst1000(c);
        moduloTheCycle(c);
        cycleOfOneTick(c);
        offsetAndTime(c);
        offsetLongerThanTheCycle(c);
        timeIsWhatIsLeft(c);
        timeIsMoreThanIsLeft(c);
        lessIsLeftLater(c);
        theOneThatEndsLast(c);
        theOneThatEndsLastIsInside(c);
        onlyThoseThatHaveTheTick(c);
        windowsThatMeet(c);
        windowsThatMeetAtTheCyclesEnd(c);
        windowOfTheWholeCycle(c);
        newWindowOfAWaitingFrame(c);
        newCycleOfAWaitingFrame(c);
        eightWindows(c);
        c.end();
    }

    private static Gates ofSpeed(Check c, long speed) {
        Gates x = new Gates(c, 2);
        x.link(1, ONE_TICK);
        x.link(2, speed);
        return x;
    }

    /** A frame that comes in at a tick of the first CYCLE begins at this one. */
    private static void beginsAt(Gates x, long comes, long time, long begins) {
        x.pass(comes);
        x.frame(1, 1, 0, 64).is(1);
        x.pass(begins - comes + time);
        x.left(-1, 0).is(0);
        x.run(1).is(1);
        x.departed(0, 1, 2, begins, begins + time);
    }

    private static void fromItsFirstTick(Check c) {
        c.sentence("a WINDOW is open from a tick of the CYCLE");
        Gates x = ofSpeed(c, ONE_TICK);
        x.gate(2, 0, 5, 8).is(1);
        beginsAt(x, 0, 1, 5);
        Gates y = ofSpeed(c, ONE_TICK);
        y.gate(2, 0, 5, 8).is(1);
        beginsAt(y, 5, 1, 5);
    }

    private static void upToItsLastTick(Check c) {
        c.sentence("up to another one");
        Gates x = ofSpeed(c, ONE_TICK);
        x.gate(2, 0, 5, 8).is(1);
        beginsAt(x, 7, 1, 7);
        Gates one = ofSpeed(c, ONE_TICK);
        one.gate(2, 0, 5, 6).is(1);
        beginsAt(one, 5, 1, 5);
    }

    private static void thatOneNot(Check c) {
        c.sentence("(that one not)");
        Gates x = ofSpeed(c, ONE_TICK);
        x.gate(2, 0, 5, 8).is(1);
        beginsAt(x, 8, 1, 1005);
        Gates one = ofSpeed(c, ONE_TICK);
        one.gate(2, 0, 5, 6).is(1);
        beginsAt(one, 6, 1, 1005);
    }

    private static void withoutAnyAlwaysOpen(Check c) {
        long[] ticks = {0, 1, 999, 1000, 1001, 2999};
        for (long tick : ticks) {
            c.sentence("without any it is always open");
            beginsAt(ofSpeed(c, ONE_TICK), tick, 1, tick);
            beginsAt(ofSpeed(c, ELEVEN_TICKS), tick, 11, tick);
        }
    }

    private static void windowsOfOtherRanksAndPorts(Check c) {
        c.sentence("a rank of a port has WINDOWS of its own");
        Gates x = ofSpeed(c, ONE_TICK);
        x.gate(2, 1, 5, 8).is(1);
        x.gate(1, 0, 5, 8).is(1);
        beginsAt(x, 0, 1, 0);
    }

    private static void cycleIsAtFirst1000(Check c) {
        c.sentence("the CYCLE (at first 1000 ticks)");
        Gates x = ofSpeed(c, ONE_TICK);
        x.gate(2, 0, 0, 1001).is(-2);
        x.gate(2, 0, 999, 1000).is(1);
        beginsAt(x, 0, 1, 999);
        x.frame(1, 1, 0, 64);
        x.run(2000).is(1);
        x.departed(1, 2, 2, 1999, 2000);
    }

    private static void moduloTheCycle(Check c) {
        c.sentence("modulo the CYCLE");
        Gates x = ofSpeed(c, ONE_TICK);
        x.gate(2, 0, 0, 1).is(1);
        beginsAt(x, 1, 1, 1000);
        Gates y = ofSpeed(c, ONE_TICK);
        y.cycle(7).is(1);
        y.gate(2, 0, 6, 7).is(1);
        for (int i = 0; i < 4; i++) {
            y.frame(1, 1, 0, 64);
        }
        y.run(100).is(4);
        for (int i = 0; i < 4; i++) {
            y.departed(i, i + 1, 2, 6 + 7 * i, 7 + 7 * i);
        }
    }

    private static void cycleOfOneTick(Check c) {
        c.sentence("a CYCLE of one tick, with a WINDOW of one tick");
        Gates x = ofSpeed(c, ONE_TICK);
        x.cycle(1).is(1);
        x.gate(2, 0, 0, 1).is(1);
        x.run(3);
        x.frame(1, 1, 0, 64);
        x.frame(1, 1, 0, 64);
        x.run(3).is(2);
        x.departed(0, 1, 2, 3, 4);
        x.departed(1, 2, 2, 4, 5);
        x.link(2, 671).is(0);
        x.frame(1, 1, 0, 64);
        x.run(2000).is(0);
    }

    private static void offsetAndTime(Check c) {
        c.sentence("the port's tick of the CYCLE is time and its OFFSET");
        Gates x = ofSpeed(c, ONE_TICK);
        x.clock(2, 100).is(100);
        x.gate(2, 0, 0, 1).is(1);
        beginsAt(x, 0, 1, 900);
        Gates y = ofSpeed(c, ONE_TICK);
        y.clock(2, 1).is(1);
        y.gate(2, 0, 999, 1000).is(1);
        beginsAt(y, 0, 1, 998);
        Gates other = ofSpeed(c, ONE_TICK);
        other.clock(1, 100).is(100);
        other.gate(2, 0, 0, 1).is(1);
        beginsAt(other, 0, 1, 0);
    }

    private static void offsetLongerThanTheCycle(Check c) {
        c.sentence("time and its OFFSET, modulo the CYCLE, with an OFFSET longer than the CYCLE");
        Gates x = ofSpeed(c, ONE_TICK);
        x.clock(2, 100).is(100);
        x.cycle(30).is(1);
        x.gate(2, 0, 0, 1).is(1);
        beginsAt(x, 0, 1, 20);
    }

    private static void timeIsWhatIsLeft(Check c) {
        c.sentence("a frame may begin if its TIME is at most what is left of that one: just as much");
        Gates x = ofSpeed(c, ELEVEN_TICKS);
        x.gate(2, 0, 20, 31).is(1);
        beginsAt(x, 0, 11, 20);
        Gates y = ofSpeed(c, ELEVEN_TICKS);
        y.gate(2, 0, 10, 31).is(1);
        beginsAt(y, 20, 11, 20);
        Gates end = ofSpeed(c, ELEVEN_TICKS);
        end.gate(2, 0, 989, 1000).is(1);
        beginsAt(end, 0, 11, 989);
    }

    private static void timeIsMoreThanIsLeft(Check c) {
        c.sentence("a frame may not begin if its TIME is one tick more than is left");
        Gates x = ofSpeed(c, ELEVEN_TICKS);
        x.gate(2, 0, 20, 30).is(1);
        x.frame(1, 1, 0, 64);
        x.run(2000).is(0);
        x.run(2000).is(0);
        x.link(2, 0).is(1);
    }

    private static void lessIsLeftLater(Check c) {
        c.sentence("what is left of a WINDOW grows less with each tick");
        Gates x = ofSpeed(c, ELEVEN_TICKS);
        x.gate(2, 0, 10, 31).is(1);
        beginsAt(x, 21, 11, 1010);
    }

    private static void theOneThatEndsLast(Check c) {
        c.sentence("of several the one that ends last");
        Gates x = ofSpeed(c, ELEVEN_TICKS);
        x.gate(2, 0, 0, 8).is(1);
        x.gate(2, 0, 4, 15).is(2);
        beginsAt(x, 0, 11, 4);
        Gates y = ofSpeed(c, ELEVEN_TICKS);
        y.gate(2, 0, 4, 15).is(1);
        y.gate(2, 0, 0, 8).is(2);
        beginsAt(y, 0, 11, 4);
        Gates sameBegin = ofSpeed(c, ELEVEN_TICKS);
        sameBegin.gate(2, 0, 3, 14).is(1);
        sameBegin.gate(2, 0, 3, 13).is(2);
        beginsAt(sameBegin, 0, 11, 3);
    }

    private static void theOneThatEndsLastIsInside(Check c) {
        c.sentence("of several the one that ends last, though another began later");
        Gates x = ofSpeed(c, ELEVEN_TICKS);
        x.gate(2, 0, 0, 20).is(1);
        x.gate(2, 0, 5, 10).is(2);
        beginsAt(x, 6, 11, 6);
        Gates y = ofSpeed(c, ELEVEN_TICKS);
        y.gate(2, 0, 5, 10).is(1);
        y.gate(2, 0, 0, 20).is(2);
        beginsAt(y, 9, 11, 9);
    }

    private static void onlyThoseThatHaveTheTick(Check c) {
        c.sentence("it is open where one of the WINDOWS has it: one that begins later has it not");
        Gates x = ofSpeed(c, ELEVEN_TICKS);
        x.gate(2, 0, 0, 8).is(1);
        x.gate(2, 0, 6, 30).is(2);
        beginsAt(x, 0, 11, 6);
        Gates gap = ofSpeed(c, ONE_TICK);
        gap.gate(2, 0, 0, 3).is(1);
        gap.gate(2, 0, 6, 9).is(2);
        beginsAt(gap, 3, 1, 6);
    }

    private static void windowsThatMeet(Check c) {
        c.sentence("what is left of that one: two WINDOWS that meet are two");
        Gates x = ofSpeed(c, ELEVEN_TICKS);
        x.gate(2, 0, 0, 10).is(1);
        x.gate(2, 0, 10, 20).is(2);
        x.frame(1, 1, 0, 64);
        x.run(2000).is(0);
        x.gate(2, 0, 9, 20).is(3);
        x.run(21).is(1);
        x.departed(0, 1, 2, 2009, 2020);
    }

    private static void windowsThatMeetAtTheCyclesEnd(Check c) {
        c.sentence("a WINDOW at the CYCLE's end does not go on at its begin");
        Gates x = ofSpeed(c, ELEVEN_TICKS);
        x.gate(2, 0, 990, 1000).is(1);
        x.gate(2, 0, 0, 10).is(2);
        x.frame(1, 1, 0, 64);
        x.run(2000).is(0);
        x.run(2000).is(0);
    }

    private static void windowOfTheWholeCycle(Check c) {
        c.sentence("a WINDOW of the whole CYCLE ends with it");
        Gates x = ofSpeed(c, ELEVEN_TICKS);
        x.gate(2, 0, 0, 1000).is(1);
        beginsAt(x, 989, 11, 989);
        Gates y = ofSpeed(c, ELEVEN_TICKS);
        y.gate(2, 0, 0, 1000).is(1);
        beginsAt(y, 990, 11, 1000);
    }

    private static void newWindowOfAWaitingFrame(Check c) {
        c.sentence("a first WINDOW closes the other ticks, one more opens its own");
        Gates x = ofSpeed(c, ONE_TICK);
        x.gate(2, 0, 500, 501).is(1);
        x.frame(1, 1, 0, 64);
        x.run(100).is(0);
        x.gate(2, 0, 110, 111).is(2);
        x.run(100).is(1);
        x.departed(0, 1, 2, 110, 111);
    }

    private static void newCycleOfAWaitingFrame(Check c) {
        c.sentence("a new CYCLE is that of all ticks from then on");
        Gates x = ofSpeed(c, ONE_TICK);
        x.gate(2, 0, 5, 6).is(1);
        x.run(100);
        x.frame(1, 1, 0, 64);
        x.cycle(6).is(1);
        x.run(10).is(1);
        x.departed(0, 1, 2, 101, 102);
        x.cycle(5).is(-2);
        x.frame(1, 1, 0, 64);
        x.run(10).is(1);
        x.departed(1, 2, 2, 113, 114);
    }

    private static void eightWindows(Check c) {
        c.sentence("each of 8 WINDOWS opens");
        Gates x = ofSpeed(c, ONE_TICK);
        for (int i = 0; i < 8; i++) {
            x.gate(2, 0, 100 * i + 50, 100 * i + 51).is(i + 1);
        }
        x.gate(2, 0, 10, 11).is(-4);
        for (int i = 0; i < 9; i++) {
            x.frame(1, 1, 0, 64);
        }
        x.run(1000).is(8);
        for (int i = 0; i < 8; i++) {
            x.departed(i, i + 1, 2, 100 * i + 50, 100 * i + 51);
        }
        x.run(100).is(1);
        x.departed(8, 9, 2, 1050, 1051);
    }
}
