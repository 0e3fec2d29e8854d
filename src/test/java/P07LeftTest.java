/** Promise 7: which frames LEFT. */
public final class P07LeftTest {
    public static void main(String[] args) {
        Check c = new Check();
        refusals(c);
        orderOfPorts(c);
        firstAreTold(c);
        c.end();
    }

    private static void refusals(Check c) {
        EthernetGates x = new EthernetGates(2);
        c.due("left(-1, 0)", x.left(-1, 0), 0);
        c.due("left(-1, 1)", x.left(-1, 1), -1);
        c.due("left(-1, 9)", x.left(-1, 9), -1);
        c.due("left(0, 9)", x.left(0, 9), -1);
        x.link(1, 100);
        x.link(2, 100);
        x.frame(1, 1, 0, 64);
        x.run(7);
        c.due("not yet", x.left(0, 0), -1);
        x.run(1);
        c.departure(x, 0, 1, 2, 0, 7);
        c.due("left(-1, 0)", x.left(-1, 0), 1);
        c.due("left(0, 4)", x.left(0, 4), -2);
        c.due("left(0, -1)", x.left(0, -1), -2);
        c.due("left(0, least)", x.left(0, Integer.MIN_VALUE), -2);
        c.due("left(1, 0)", x.left(1, 0), -1);
        c.due("left(1, 4)", x.left(1, 4), -1);
        c.due("left(-2, 0)", x.left(-2, 0), -1);
        c.due("left(most, 0)", x.left(Integer.MAX_VALUE, 0), -1);
    }

    private static void orderOfPorts(Check c) {
        EthernetGates x = new EthernetGates(4);
        x.link(1, 10000);
        x.link(2, 96);
        x.link(3, 672);
        x.link(4, 672);
        x.run(10);
        x.learn(1, 4, -1);
        x.learn(2, 3, -1);
        x.learn(3, 2, -1);
        x.frame(1, 3, 0, 64);
        x.run(6);
        x.frame(1, 1, 0, 64);
        x.frame(1, 2, 0, 64);
        x.frame(1, 1, 0, 64);
        c.due("run(10)", x.run(10), 4);
        c.departure(x, 0, 1, 2, 10, 17);
        c.departure(x, 1, 3, 3, 16, 17);
        c.departure(x, 2, 2, 4, 16, 17);
        c.departure(x, 3, 4, 4, 17, 18);
    }

    // A frame that goes to 15 ports leaves 15 times: 384 frames are 5760 departures.
    private static void firstAreTold(Check c) {
        EthernetGates x = new EthernetGates(16);
        for (int port = 1; port <= 16; port++) {
            x.link(port, 10000);
        }
        int sum = 0;
        for (int round = 0; round < 3; round++) {
            for (int i = 0; i < 128; i++) {
                x.frame(1, 1, i % 8, 64);
            }
            sum += x.run(2000);
        }
        c.due("all LEFT", sum, 5760);
        c.due("left(-1, 0)", x.left(-1, 0), 5760);
        c.due("left(4999, 1)", x.left(4999, 1), 2 + 4999 % 15);
        c.due("left(4999, 3)", x.left(4999, 3), 4000 + (4999 - 3840) / 15 + 1);
        c.due("left(5000, 1)", x.left(5000, 1), -1);
        c.due("left(5759, 0)", x.left(5759, 0), -1);
    }
}
