/** Promise 1: so many ports, 4 for a number outside 1 .. 16. */
public final class P01NewObjectTest {
    public static void main(String[] args) {
        Check c = new Check();
        for (int ports = 1; ports <= 16; ports++) {
            portsAre(c, ports, ports);
        }
        int[] others = {0, -1, 17, 100, Integer.MAX_VALUE, Integer.MIN_VALUE};
        for (int ports : others) {
            portsAre(c, ports, 4);
        }
        startsEmpty(c);
        c.end();
    }

    private static void portsAre(Check c, int asked, int due) {
        EthernetGates x = new EthernetGates(asked);
        c.due("new " + asked + ": link(" + due + ", 1)", x.link(due, 1), 0);
        c.due("new " + asked + ": link(" + (due + 1) + ", 1)", x.link(due + 1, 1), -1);
        c.due("new " + asked + ": link(0, 1)", x.link(0, 1), -1);
    }

    private static void startsEmpty(Check c) {
        EthernetGates x = new EthernetGates(2);
        c.due("left(-1, 0)", x.left(-1, 0), 0);
        for (int what = 0; what < 4; what++) {
            c.due("dropped(" + what + ")", x.dropped(what), 0);
        }
        c.due("frame without a LINK", x.frame(1, 1, 0, 64), -3);
        c.due("the first CYCLE holds 1000", x.gate(1, 0, 0, 1000), 1);
        c.due("the first CYCLE holds no more", x.gate(1, 0, 0, 1001), -2);
        c.due("time is 0: learn at 1", x.learn(1, 1, 1), -2);
        c.due("time is 0: learn at 0", x.learn(1, 1, 0), 0);
        c.due("filter(8, -1)", x.filter(8, -1), 0);
        c.due("service(0, 1)", x.service(0, 1), 0);
        c.due("clock(1, 0)", x.clock(1, 0), 0);
    }
}
