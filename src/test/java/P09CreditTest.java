/** Promise 9: a rank of a port is SHAPED by a fraction. */
public final class P09CreditTest {
    public static void main(String[] args) {
        Check c = new Check();
        refusals(c);
        waitsForCredit(c);
        exactFraction(c);
        growsWhileWaiting(c);
        emptyQueueEndsCredit(c);
        emptyQueueRegainsCredit(c);
        shapedAnewOrNoMore(c);
        moreThanTheSpeed(c);
        c.end();
    }

    private static EthernetGates twoPorts(long speed) {
        EthernetGates x = new EthernetGates(2);
        x.link(1, 100);
        x.link(2, speed);
        return x;
    }

    private static void refusals(Check c) {
        EthernetGates x = new EthernetGates(2);
        c.due("credit(3, 0, 1, 0)", x.credit(3, 0, 1, 0), -1);
        c.due("credit(0, 0, 1, 1)", x.credit(0, 0, 1, 1), -1);
        c.due("credit(1, 8, 1, 0)", x.credit(1, 8, 1, 0), -1);
        c.due("credit(1, -1, 1, 1)", x.credit(1, -1, 1, 1), -1);
        c.due("credit(1, 0, 1, 0)", x.credit(1, 0, 1, 0), -2);
        c.due("credit(1, 0, 0, 0)", x.credit(1, 0, 0, 0), -2);
        c.due("credit(1, 0, -1, -1)", x.credit(1, 0, -1, -1), -2);
        c.due("credit(1, 0, 1, 1001)", x.credit(1, 0, 1, 1001), -2);
        c.due("credit(1, 0, -1, 1000)", x.credit(1, 0, -1, 1000), -2);
        c.due("credit(1, 0, 10001, 1)", x.credit(1, 0, 10001, 1), -2);
        c.due("credit(1, 0, 20001, 2)", x.credit(1, 0, 20001, 2), -2);
        c.due("credit(1, 0, most, 1000)", x.credit(1, 0, Long.MAX_VALUE, 1000), -2);
        c.due("credit(1, 0, 20000, 2)", x.credit(1, 0, 20000, 2), 1);
        c.due("credit(1, 0, 10000000, 1000)", x.credit(1, 0, 10000000, 1000), 1);
        c.due("credit(1, 7, 0, 1000)", x.credit(1, 7, 0, 1000), 1);
    }

    private static void waitsForCredit(Check c) {
        EthernetGates x = twoPorts(10);
        x.credit(2, 4, 5, 1);
        x.frame(1, 1, 4, 64);
        x.frame(1, 1, 4, 64);
        x.frame(1, 1, 3, 64);
        c.due("run(300)", x.run(300), 3);
        c.departure(x, 0, 1, 2, 0, 68);
        c.departure(x, 1, 3, 2, 68, 136);
        c.departure(x, 2, 2, 2, 136, 204);
    }

    // Down by 10 - 1/3 in each of 68 ticks is 657 1/3; 1972 thirds regain that, and not 1971.
    private static void exactFraction(Check c) {
        EthernetGates x = twoPorts(10);
        x.credit(2, 0, 1, 3);
        x.frame(1, 1, 0, 64);
        x.frame(1, 1, 0, 64);
        x.run(2000);
        c.due("run(200)", x.run(200), 1);
        c.departure(x, 1, 2, 2, 68 + 1972, 68 + 1972 + 68);
    }

    // A rank that waits behind another one's frame saves credit for two of its own.
    private static void growsWhileWaiting(Check c) {
        EthernetGates x = twoPorts(10);
        x.credit(2, 0, 9, 1);
        x.frame(1, 1, 7, 64);
        x.frame(1, 1, 0, 64);
        x.frame(1, 1, 0, 64);
        c.due("run(300)", x.run(300), 3);
        c.departure(x, 1, 2, 2, 68, 136);
        c.departure(x, 2, 3, 2, 136, 204);
    }

    // 9 in each of 68 ticks is saved; the QUEUE is empty while the first is sent, and one tick more ends the rest.
    private static void emptyQueueEndsCredit(Check c) {
        EthernetGates x = twoPorts(10);
        x.credit(2, 0, 9, 1);
        x.frame(1, 1, 7, 64);
        x.frame(1, 1, 0, 64);
        x.run(137);
        c.due("both LEFT", x.left(-1, 0), 2);
        x.frame(1, 1, 0, 64);
        x.frame(1, 1, 0, 64);
        c.due("run(300)", x.run(300), 2);
        c.departure(x, 2, 3, 2, 137, 205);
        c.departure(x, 3, 4, 2, 213, 281);
    }

    // Below 0 it comes back at the same pace with an empty QUEUE, and stops at 0.
    private static void emptyQueueRegainsCredit(Check c) {
        EthernetGates x = twoPorts(10);
        x.credit(2, 0, 5, 1);
        x.frame(1, 1, 0, 64);
        x.run(100);
        x.frame(1, 1, 0, 64);
        x.run(200);
        c.departure(x, 1, 2, 2, 136, 204);
        EthernetGates y = twoPorts(10);
        y.credit(2, 0, 7, 1);
        y.frame(1, 1, 0, 64);
        y.run(1000);
        y.frame(1, 1, 0, 64);
        y.frame(1, 1, 0, 64);
        c.due("run(300)", y.run(300), 2);
        c.departure(y, 1, 2, 2, 1000, 1068);
        c.departure(y, 2, 3, 2, 1098, 1166);
    }

    private static void shapedAnewOrNoMore(Check c) {
        EthernetGates x = twoPorts(10);
        x.credit(2, 0, 1, 1000);
        for (int i = 0; i < 4; i++) {
            x.frame(1, 1, 0, 64);
        }
        c.due("one, then none for long", x.run(1000), 1);
        x.credit(2, 0, 1, 999);
        c.due("CREDIT 0 anew", x.run(500), 1);
        c.departure(x, 1, 2, 2, 1000, 1068);
        c.due("credit(2, 0, 0, 1)", x.credit(2, 0, 0, 1), 1);
        c.due("SHAPED no more", x.run(500), 2);
        c.departure(x, 2, 3, 2, 1500, 1568);
        c.departure(x, 3, 4, 2, 1568, 1636);
    }

    private static void moreThanTheSpeed(Check c) {
        EthernetGates x = twoPorts(10);
        x.credit(2, 0, 10000, 1);
        for (int i = 0; i < 5; i++) {
            x.frame(1, 1, 0, 64);
        }
        c.due("as if not SHAPED", x.run(68 * 5 + 1), 5);
    }
}
