/** Promise 3: WINDOWS of a rank of a port, and when frames begin in them. */
public final class P03GateTest {
    public static void main(String[] args) {
        Check c = new Check();
        refusals(c);
        timeThatIsLeft(c);
        windowThatEndsLast(c);
        windowsThatMeetAreTwo(c);
        onlyTheFirstOfAQueue(c);
        otherRanksAndPortsAreOpen(c);
        allWindowsAreLookedAt(c);
        c.end();
    }

    private static EthernetGates twoPorts(long speed) {
        EthernetGates x = new EthernetGates(2);
        x.link(1, 100);
        x.link(2, speed);
        return x;
    }

    private static void refusals(Check c) {
        EthernetGates x = new EthernetGates(2);
        c.due("gate(3, 0, 0, 1)", x.gate(3, 0, 0, 1), -1);
        c.due("gate(0, 0, 0, 1)", x.gate(0, 0, 0, 1), -1);
        c.due("gate(1, 8, 9, 1)", x.gate(1, 8, 9, 1), -1);
        c.due("gate(1, -1, 9, 1)", x.gate(1, -1, 9, 1), -1);
        c.due("gate(1, 0, -1, 1)", x.gate(1, 0, -1, 1), -2);
        c.due("gate(1, 0, 1, 1)", x.gate(1, 0, 1, 1), -2);
        c.due("gate(1, 0, 2, 1)", x.gate(1, 0, 2, 1), -2);
        c.due("gate(1, 0, 0, 1001)", x.gate(1, 0, 0, 1001), -2);
        c.due("gate(1, 0, least, most)", x.gate(1, 0, Long.MIN_VALUE, Long.MAX_VALUE), -2);
        for (int i = 1; i <= 8; i++) {
            c.due("WINDOW " + i, x.gate(1, 7, 999, 1000), i);
        }
        c.due("the ninth", x.gate(1, 7, 999, 1000), -4);
        c.due("the ninth, outside", x.gate(1, 7, 999, 1001), -2);
        c.due("another rank", x.gate(1, 6, 0, 1), 1);
        c.due("another port", x.gate(2, 7, 0, 1), 1);
    }

    private static void timeThatIsLeft(Check c) {
        EthernetGates x = twoPorts(67);
        x.gate(2, 0, 20, 30);
        x.gate(2, 1, 40, 51);
        x.frame(1, 1, 0, 64);
        x.frame(1, 1, 1, 64);
        c.due("11 ticks fit into 11, not into 10", x.run(1000), 1);
        c.departure(x, 0, 2, 2, 40, 51);
        c.due("nor in the next CYCLE", x.run(2000), 0);
        c.due("a longer WINDOW", x.gate(2, 0, 15, 26), 2);
        c.due("run(1000)", x.run(1000), 1);
        c.departure(x, 1, 1, 2, 3015, 3026);
    }

    private static void windowThatEndsLast(Check c) {
        EthernetGates x = twoPorts(67);
        x.gate(2, 0, 10, 22);
        x.gate(2, 0, 0, 12);
        x.gate(2, 0, 5, 15);
        x.frame(1, 1, 0, 64);
        x.frame(1, 1, 0, 64);
        c.due("run(100)", x.run(100), 2);
        c.departure(x, 0, 1, 2, 0, 11);
        c.departure(x, 1, 2, 2, 11, 22);
    }

    private static void windowsThatMeetAreTwo(Check c) {
        EthernetGates x = twoPorts(67);
        x.gate(2, 0, 0, 10);
        x.gate(2, 0, 10, 20);
        x.frame(1, 1, 0, 64);
        c.due("run(2000)", x.run(2000), 0);
    }

    private static void onlyTheFirstOfAQueue(Check c) {
        EthernetGates x = twoPorts(67);
        x.gate(2, 3, 0, 11);
        x.frame(1, 1, 3, 1522);
        x.frame(1, 1, 3, 64);
        x.frame(1, 1, 0, 64);
        c.due("run(2000)", x.run(2000), 1);
        c.departure(x, 0, 3, 2, 0, 11);
    }

    private static void otherRanksAndPortsAreOpen(Check c) {
        EthernetGates x = new EthernetGates(3);
        x.link(1, 100);
        x.link(2, 100);
        x.link(3, 100);
        x.gate(2, 4, 500, 507);
        x.frame(1, 1, 4, 64);
        x.frame(1, 1, 2, 64);
        c.due("run(1000)", x.run(1000), 4);
        c.departure(x, 0, 2, 2, 0, 7);
        c.departure(x, 1, 1, 3, 0, 7);
        c.departure(x, 2, 2, 3, 7, 14);
        c.departure(x, 3, 1, 2, 500, 507);
    }

    private static void allWindowsAreLookedAt(Check c) {
        EthernetGates x = twoPorts(67);
        for (int i = 1; i <= 7; i++) {
            x.gate(2, 0, 20 * i, 20 * i + 10);
        }
        x.gate(2, 0, 500, 511);
        x.frame(1, 1, 0, 64);
        c.due("run(1000)", x.run(1000), 1);
        c.departure(x, 0, 1, 2, 500, 511);
    }
}
