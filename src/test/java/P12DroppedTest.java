/** Promise 12: how many were dropped, and why. */
public final class P12DroppedTest {
    public static void main(String[] args) {
        Check c = new Check();
        refusals(c);
        kinds(c);
        c.end();
    }

    private static void refusals(Check c) {
        EthernetGates x = new EthernetGates(2);
        c.due("dropped(-1)", x.dropped(-1), -2);
        c.due("dropped(4)", x.dropped(4), -2);
        c.due("dropped(least)", x.dropped(Integer.MIN_VALUE), -2);
        c.due("dropped(most)", x.dropped(Integer.MAX_VALUE), -2);
    }

    private static void kinds(Check c) {
        EthernetGates x = new EthernetGates(4);
        x.link(1, 1);
        x.frame(1, 1, 0, 64);
        are(c, x, "nowhere to go", 0, 0, 1, 0);
        x.link(2, 1);
        x.link(3, 1);
        for (int i = 0; i < 18; i++) {
            x.frame(1, 1, 0, 64);
        }
        are(c, x, "two copies each of two frames", 4, 0, 1, 0);
        x.filter(16, 0);
        x.frame(1, 2, 0, 64);
        are(c, x, "a RATE drops a frame, not its copies", 4, 1, 1, 0);
        x.learn(3, 4, -1);
        x.frame(1, 3, 0, 64);
        are(c, x, "a port without a LINK", 4, 1, 2, 0);
        x.learn(4, 1, -1);
        x.frame(1, 4, 0, 64);
        are(c, x, "the port it came in by", 4, 1, 3, 0);
        x.run(1);
        x.link(2, 0);
        are(c, x, "a LINK that is lost", 4, 1, 3, 16);
        x.link(3, 0);
        are(c, x, "another one", 4, 1, 3, 32);
    }

    private static void are(Check c, EthernetGates x, String when, int room, int rate, int nowhere, int link) {
        c.due(when + ": dropped(0)", x.dropped(0), room);
        c.due(when + ": dropped(1)", x.dropped(1), rate);
        c.due(when + ": dropped(2)", x.dropped(2), nowhere);
        c.due(when + ": dropped(3)", x.dropped(3), link);
    }
}
