/** Promise 8: addresses are learned, grow old, and may be fixed. */
public final class P08LearnTest {
    public static void main(String[] args) {
        Check c = new Check();
        refusals(c);
        ages(c);
        lastCallCounts(c);
        fixedOnes(c);
        c.end();
    }

    private static void refusals(Check c) {
        EthernetGates x = new EthernetGates(2);
        c.due("learn(0, 3, 9)", x.learn(0, 3, 9), -1);
        c.due("learn(1, 0, 0)", x.learn(1, 0, 0), -1);
        c.due("learn(0, 1, 0)", x.learn(0, 1, 0), -2);
        c.due("learn(1001, 1, 0)", x.learn(1001, 1, 0), -2);
        c.due("learn(least, 1, 0)", x.learn(Integer.MIN_VALUE, 1, 0), -2);
        c.due("learn(1, 1, 1)", x.learn(1, 1, 1), -2);
        c.due("learn(1, 1, -2)", x.learn(1, 1, -2), -2);
        c.due("learn(1, 1, least)", x.learn(1, 1, Long.MIN_VALUE), -2);
        c.due("learn(1, 1, 2^32)", x.learn(1, 1, 1L << 32), -2);
        c.due("learn(1, 1, 0)", x.learn(1, 1, 0), 0);
        c.due("learn(1000, 2, 0)", x.learn(1000, 2, 0), 0);
        c.due("learn(1000, 1, 0)", x.learn(1000, 1, 0), 2);
    }

    private static void ages(Check c) {
        EthernetGates x = new EthernetGates(3);
        x.link(1, 10000);
        x.link(2, 10000);
        x.link(3, 10000);
        x.run(10);
        x.learn(1, 2, 5);
        x.learn(2, 2, 5);
        x.run(2000);
        x.run(994);
        x.frame(1, 1, 0, 64);
        c.due("2999 ticks later: to its port", x.link(2, 0) + 10 * x.link(3, 0), 1);
        x.link(2, 10000);
        x.link(3, 10000);
        c.due("and it is told", x.learn(2, 3, 5), 2);
        x.run(1);
        x.frame(1, 1, 0, 64);
        c.due("3000 ticks later: to all", x.link(2, 0) + 10 * x.link(3, 0), 11);
        c.due("and it is nowhere", x.learn(1, 3, 3005), 0);
        c.due("but was again", x.learn(1, 3, 3005), 3);
        c.due("the other one likewise", x.learn(2, 1, 0), 0);
    }

    private static void lastCallCounts(Check c) {
        EthernetGates x = new EthernetGates(2);
        x.run(2000);
        x.run(1500);
        x.learn(1, 1, 3500);
        c.due("an older time, learned later", x.learn(1, 2, 501), 1);
        c.due("is where it is", x.learn(1, 2, 500), 2);
        c.due("a time too old leaves it nowhere", x.learn(1, 1, 3500), 0);
    }

    private static void fixedOnes(Check c) {
        EthernetGates x = new EthernetGates(2);
        c.due("learn(1, 1, 0)", x.learn(1, 1, 0), 0);
        c.due("learn(1, 2, -1)", x.learn(1, 2, -1), 1);
        c.due("learn(1, 1, 0)", x.learn(1, 1, 0), -3);
        c.due("learn(1, 2, 0)", x.learn(1, 2, 0), -3);
        c.due("learn(1, 2, 1)", x.learn(1, 2, 1), -2);
        x.run(2000);
        x.run(2000);
        c.due("for ever", x.learn(1, 1, -1), 2);
        c.due("fixed anew", x.learn(1, 1, -1), 1);
        c.due("another address is free", x.learn(2, 1, 0), 0);
    }
}
