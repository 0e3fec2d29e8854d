/** Promise 2: a port's speed, and what is lost with its LINK. */
public final class P02LinkTest {
    public static void main(String[] args) {
        Check c = new Check();
        refusals(c);
        speedWhileSending(c);
        lostFrames(c);
        speedOfWaitingFrames(c);
        onlyFramesAreLost(c);
        c.end();
    }

    private static void refusals(Check c) {
        EthernetGates x = new EthernetGates(2);
        c.due("link(3, -1)", x.link(3, -1), -1);
        c.due("link(0, 5)", x.link(0, 5), -1);
        c.due("link(-2147483648, 5)", x.link(Integer.MIN_VALUE, 5), -1);
        c.due("link(1, -1)", x.link(1, -1), -2);
        c.due("link(1, 10001)", x.link(1, 10001), -2);
        c.due("link(1, 2^32 + 5)", x.link(1, (1L << 32) + 5), -2);
        c.due("link(1, least)", x.link(1, Long.MIN_VALUE), -2);
        c.due("a refused speed is no LINK", x.frame(1, 1, 0, 64), -3);
        c.due("link(1, 10000)", x.link(1, 10000), 0);
        c.due("link(1, 0)", x.link(1, 0), 0);
        c.due("frame by a port that lost its LINK", x.frame(1, 1, 0, 64), -3);
    }

    private static void speedWhileSending(Check c) {
        EthernetGates x = new EthernetGates(2);
        x.link(1, 10);
        x.link(2, 10);
        c.due("frame", x.frame(1, 1, 0, 64), 1);
        c.due("waiting: link(2, 20)", x.link(2, 20), 0);
        c.due("waiting: link(2, 10)", x.link(2, 10), 0);
        c.due("run(68)", x.run(68), 0);
        c.due("sending: link(2, 9)", x.link(2, 9), -3);
        c.due("sending: link(2, 10)", x.link(2, 10), 0);
        c.due("sending: link(2, 10001)", x.link(2, 10001), -2);
        c.due("sending goes on: run(1)", x.run(1), 1);
        c.due("LEFT: link(2, 9)", x.link(2, 9), 0);
    }

    private static void lostFrames(Check c) {
        EthernetGates x = new EthernetGates(3);
        x.link(1, 10);
        x.link(2, 10);
        x.link(3, 10);
        x.learn(1, 2, -1);
        for (int rank = 0; rank < 8; rank++) {
            x.frame(1, 1, rank, 64);
        }
        x.frame(1, 2, 5, 64);
        c.due("run(5)", x.run(5), 0);
        c.due("one sending, eight waiting: link(2, 0)", x.link(2, 0), 9);
        c.due("dropped(3)", x.dropped(3), 9);
        c.due("link(2, 0) again", x.link(2, 0), 0);
        c.due("run(100) ends only the other port's", x.run(100), 1);
        c.departure(x, 0, 9, 3, 0, 68);
        c.due("link(2, 10)", x.link(2, 10), 0);
        c.due("run(100) sends none of the lost", x.run(100), 0);
        c.due("a new frame", x.frame(1, 1, 0, 64), 10);
        c.due("run(100) sends it", x.run(100), 1);
        c.departure(x, 1, 10, 2, 205, 273);
        c.due("dropped(3)", x.dropped(3), 9);
    }

    private static void speedOfWaitingFrames(Check c) {
        EthernetGates x = new EthernetGates(2);
        x.link(1, 10);
        x.link(2, 10);
        x.frame(1, 1, 0, 64);
        x.link(2, 673);
        c.due("run(2)", x.run(2), 1);
        c.departure(x, 0, 1, 2, 0, 1);
    }

    // The WINDOWS, the OFFSET, the addresses and the RATES are no frames.
    private static void onlyFramesAreLost(Check c) {
        EthernetGates x = new EthernetGates(3);
        x.link(1, 672);
        x.link(2, 672);
        x.link(3, 672);
        x.gate(2, 0, 50, 51);
        x.clock(2, 10);
        x.learn(1, 2, 0);
        x.filter(8, 1);
        c.due("link(2, 0)", x.link(2, 0), 0);
        c.due("link(2, 672)", x.link(2, 672), 0);
        c.due("to port 2 alone", x.frame(1, 1, 0, 64), 1);
        c.due("over its RATE", x.frame(1, 1, 0, 64), 0);
        c.due("run(100)", x.run(100), 1);
        c.departure(x, 0, 1, 2, 40, 41);
        c.due("gate(2, 0, 0, 1)", x.gate(2, 0, 0, 1), 2);
        c.due("clock(2, 10)", x.clock(2, 10), 10);
    }
}
