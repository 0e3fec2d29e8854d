/** Promise 4: the CYCLE's length. */
public final class P04CycleTest {
    private static final long THREW = -1000;

    public static void main(String[] args) {
        Check c = new Check();
        refusals(c);
        lengthIsUsed(c);
        refusedLengthIsNotUsed(c);
        c.end();
    }

    private static long cycle(EthernetGates x, long micros) {
        try {
            return x.cycle(micros);
        } catch (ArithmeticException e) {
            return THREW;
        }
    }

    private static void refusals(Check c) {
        EthernetGates x = new EthernetGates(2);
        c.due("cycle(-1)", cycle(x, -1), -2);
        c.due("cycle(least)", cycle(x, Long.MIN_VALUE), -2);
        c.due("cycle(1000001)", cycle(x, 1000001), -2);
        c.due("cycle(2^32)", cycle(x, 1L << 32), -2);
        c.due("cycle(0)", cycle(x, 0), THREW);
        c.due("the CYCLE is as before", x.gate(1, 0, 0, 1001), -2);
        c.due("cycle(1000000)", cycle(x, 1000000), 1);
        c.due("gate(1, 0, 0, 1000000)", x.gate(1, 0, 0, 1000000), 1);
        c.due("cycle(999999)", cycle(x, 999999), -2);
        c.due("cycle(0) with a WINDOW", cycle(x, 0), -2);
        EthernetGates y = new EthernetGates(2);
        c.due("cycle(1)", cycle(y, 1), 1);
        c.due("gate(2, 7, 0, 2)", y.gate(2, 7, 0, 2), -2);
        c.due("cycle(10)", cycle(y, 10), 1);
        c.due("gate(2, 7, 0, 9)", y.gate(2, 7, 0, 9), 1);
        c.due("gate(1, 3, 0, 5)", y.gate(1, 3, 0, 5), 1);
        c.due("cycle(8)", cycle(y, 8), -2);
        c.due("cycle(9)", cycle(y, 9), 1);
    }

    private static void lengthIsUsed(Check c) {
        EthernetGates x = new EthernetGates(2);
        x.link(1, 100);
        x.link(2, 100);
        cycle(x, 30);
        x.gate(2, 0, 5, 12);
        x.run(50);
        x.frame(1, 1, 0, 64);
        c.due("run(30)", x.run(30), 1);
        c.departure(x, 0, 1, 2, 65, 72);
        cycle(x, 40);
        x.frame(1, 1, 0, 64);
        c.due("run(100)", x.run(100), 1);
        c.departure(x, 1, 2, 2, 85, 92);
    }

    private static void refusedLengthIsNotUsed(Check c) {
        EthernetGates x = new EthernetGates(2);
        x.link(1, 100);
        x.link(2, 100);
        cycle(x, 30);
        x.gate(2, 0, 5, 12);
        cycle(x, 11);
        cycle(x, 0);
        x.run(13);
        x.frame(1, 1, 0, 64);
        c.due("run(100)", x.run(100), 1);
        c.departure(x, 0, 1, 2, 35, 42);
    }
}
