/** Promise 6: ticks go by, and frames leave. */
public final class P06RunTest {
    public static void main(String[] args) {
        Check c = new Check();
        refusals(c);
        timeOfAFrame(c);
        ranksAndQueues(c);
        copiesCount(c);
        manyRunsAreOne(c);
        c.end();
    }

    private static void refusals(Check c) {
        EthernetGates x = new EthernetGates(2);
        c.due("run(-1)", x.run(-1), -2);
        c.due("run(2001)", x.run(2001), -2);
        c.due("run(2^32)", x.run(1L << 32), -2);
        c.due("run(least)", x.run(Long.MIN_VALUE), -2);
        c.due("no tick went by", x.learn(1, 1, 1), -2);
        c.due("run(0)", x.run(0), 0);
        c.due("no tick went by", x.learn(1, 1, 1), -2);
        c.due("run(2000)", x.run(2000), 0);
        c.due("2000 went by", x.learn(1, 1, 2001), -2);
        c.due("2000 went by", x.learn(1, 1, 2000), 0);
    }

    private static void timeOfAFrame(Check c) {
        timeIs(c, 64, 1, 672);
        timeIs(c, 64, 672, 1);
        timeIs(c, 64, 671, 2);
        timeIs(c, 64, 67, 11);
        timeIs(c, 64, 10000, 1);
        timeIs(c, 1522, 10000, 2);
        timeIs(c, 1230, 10000, 1);
        timeIs(c, 1231, 10000, 2);
        timeIs(c, 1522, 12, 1028);
    }

    private static void timeIs(Check c, int length, long speed, int time) {
        EthernetGates x = new EthernetGates(2);
        x.link(1, 1);
        x.link(2, speed);
        x.run(3);
        x.frame(1, 1, 0, length);
        String of = "length " + length + ", speed " + speed;
        c.due(of + ": run up to the end's tick", x.run(time), 0);
        c.due(of + ": run of that tick", x.run(1), 1);
        c.departure(x, 0, 1, 2, 3, 3 + time);
    }

    private static void ranksAndQueues(Check c) {
        EthernetGates x = new EthernetGates(2);
        x.link(1, 100);
        x.link(2, 100);
        x.frame(1, 1, 0, 64);
        x.frame(1, 1, 7, 64);
        x.frame(1, 1, 3, 64);
        x.frame(1, 1, 7, 64);
        x.run(1);
        x.frame(1, 1, 7, 64);
        c.due("run(100)", x.run(100), 5);
        int[] order = {2, 4, 5, 3, 1};
        for (int i = 0; i < order.length; i++) {
            c.departure(x, i, order[i], 2, 7 * i, 7 * i + 7);
        }
    }

    private static void copiesCount(Check c) {
        EthernetGates x = new EthernetGates(16);
        for (int port = 1; port <= 16; port++) {
            x.link(port, 100);
        }
        x.frame(4, 1, 0, 64);
        c.due("run(7)", x.run(7), 0);
        c.due("run(1)", x.run(1), 15);
        c.due("run(100)", x.run(100), 0);
    }

    private static void manyRunsAreOne(Check c) {
        EthernetGates one = busy();
        EthernetGates many = busy();
        int sum = 0;
        for (int i = 0; i < 300; i++) {
            sum += many.run(1);
        }
        c.due("run(300)", one.run(300), sum);
        for (int i = 0; i < sum; i++) {
            c.departure(one, i, many.left(i, 0), many.left(i, 1), many.left(i, 2), many.left(i, 3));
        }
        c.isTrue("some frames LEFT", sum > 5);
    }

    private static EthernetGates busy() {
        EthernetGates x = new EthernetGates(3);
        x.link(1, 100);
        x.link(2, 90);
        x.link(3, 33);
        x.credit(2, 6, 7, 3);
        x.credit(3, 6, 100, 7);
        x.gate(3, 5, 100, 150);
        for (int rank = 0; rank < 8; rank++) {
            x.frame(1, 1, rank, 64 + rank);
            x.frame(2, 1, rank, 64 + rank);
        }
        return x;
    }
}
