/** Promise 11: a port's OFFSET is set by small steps. */
public final class P11ClockTest {
    public static void main(String[] args) {
        Check c = new Check();
        refusals(c);
        steps(c);
        offsetIsUsed(c);
        c.end();
    }

    private static void refusals(Check c) {
        EthernetGates x = new EthernetGates(2);
        c.due("clock(3, -1)", x.clock(3, -1), -1);
        c.due("clock(0, 0)", x.clock(0, 0), -1);
        c.due("clock(1, -1)", x.clock(1, -1), -2);
        c.due("clock(1, 1000001)", x.clock(1, 1000001), -2);
        c.due("clock(1, least)", x.clock(1, Long.MIN_VALUE), -2);
        c.due("clock(1, most)", x.clock(1, Long.MAX_VALUE), -2);
        c.due("clock(1, 0)", x.clock(1, 0), 0);
    }

    private static void steps(Check c) {
        EthernetGates x = new EthernetGates(2);
        c.due("clock(1, 1000000)", x.clock(1, 1000000), 100);
        c.due("clock(1, 201)", x.clock(1, 201), 200);
        c.due("clock(1, 201)", x.clock(1, 201), 201);
        c.due("clock(1, 201)", x.clock(1, 201), 201);
        c.due("clock(1, 101)", x.clock(1, 101), 101);
        c.due("clock(1, 0)", x.clock(1, 0), 1);
        c.due("clock(1, 0)", x.clock(1, 0), 0);
        c.due("the other port", x.clock(2, 7), 7);
    }

    private static void offsetIsUsed(Check c) {
        EthernetGates x = new EthernetGates(3);
        x.link(1, 100);
        x.link(2, 100);
        x.link(3, 100);
        x.gate(2, 0, 50, 57);
        x.gate(3, 0, 50, 57);
        x.clock(2, 20);
        x.clock(3, 60);
        x.frame(1, 1, 0, 64);
        c.due("run(1000)", x.run(1000), 2);
        c.departure(x, 0, 1, 2, 30, 37);
        c.departure(x, 1, 1, 3, 990, 997);
    }
}
