/** Promise 5: frames come in, get numbers, and go into QUEUES. */
public final class P05FrameTest {
    public static void main(String[] args) {
        Check c = new Check();
        refusals(c);
        numbers(c);
        wherePortIsKnown(c);
        copies(c);
        roomOfAQueue(c);
        someCopiesWithoutRoom(c);
        c.end();
    }

    private static void refusals(Check c) {
        EthernetGates x = new EthernetGates(2);
        c.due("frame(3, 0, 9, 0)", x.frame(3, 0, 9, 0), -1);
        c.due("frame(0, 1, 0, 64)", x.frame(0, 1, 0, 64), -1);
        c.due("frame(1, 0, 0, 64)", x.frame(1, 0, 0, 64), -2);
        c.due("frame(1, 1001, 0, 64)", x.frame(1, 1001, 0, 64), -2);
        c.due("frame(1, 1, -1, 64)", x.frame(1, 1, -1, 64), -2);
        c.due("frame(1, 1, 8, 64)", x.frame(1, 1, 8, 64), -2);
        c.due("frame(1, 1, 0, 63)", x.frame(1, 1, 0, 63), -2);
        c.due("frame(1, 1, 0, 1523)", x.frame(1, 1, 0, 1523), -2);
        c.due("frame(1, 1, 0, least)", x.frame(1, 1, 0, Integer.MIN_VALUE), -2);
        c.due("frame(1, 1, 0, 64)", x.frame(1, 1, 0, 64), -3);
        for (int what = 0; what < 4; what++) {
            c.due("dropped(" + what + ")", x.dropped(what), 0);
        }
        x.link(1, 1);
        x.link(2, 1);
        c.due("refused ones have no number", x.frame(1, 1000, 7, 1522), 1);
    }

    private static void numbers(Check c) {
        EthernetGates x = new EthernetGates(2);
        x.link(1, 10);
        c.due("nowhere to go", x.frame(1, 1, 0, 64), 0);
        x.link(2, 10);
        x.filter(8, 0);
        c.due("over its RATE", x.frame(1, 1, 0, 64), 0);
        c.due("both had numbers", x.frame(1, 2, 0, 64), 3);
    }

    private static void wherePortIsKnown(Check c) {
        EthernetGates x = new EthernetGates(4);
        x.link(1, 100);
        x.link(2, 100);
        x.link(3, 100);
        x.learn(1, 2, -1);
        x.learn(2, 1, -1);
        x.learn(3, 4, -1);
        c.due("to port 2", x.frame(1, 1, 0, 64), 1);
        c.due("to where it came from", x.frame(1, 2, 0, 64), 0);
        c.due("to a port without a LINK", x.frame(1, 3, 0, 64), 0);
        c.due("dropped(2)", x.dropped(2), 2);
        c.due("run(100)", x.run(100), 1);
        c.departure(x, 0, 1, 2, 0, 7);
    }

    private static void copies(Check c) {
        EthernetGates x = new EthernetGates(5);
        x.link(1, 100);
        x.link(2, 100);
        x.link(3, 50);
        x.link(5, 100);
        c.due("frame(3, 1, 0, 64)", x.frame(3, 1, 0, 64), 1);
        c.due("run(100)", x.run(100), 3);
        c.departure(x, 0, 1, 1, 0, 7);
        c.departure(x, 1, 1, 2, 0, 7);
        c.departure(x, 2, 1, 5, 0, 7);
    }

    private static void roomOfAQueue(Check c) {
        EthernetGates x = new EthernetGates(2);
        x.link(1, 1);
        x.link(2, 1);
        for (int i = 1; i <= 16; i++) {
            c.due("frame " + i, x.frame(1, 1, 4, 64), i);
        }
        c.due("the 17th", x.frame(1, 1, 4, 64), 0);
        c.due("another rank", x.frame(1, 1, 3, 64), 18);
        c.due("dropped(0)", x.dropped(0), 1);
        x.run(1);
        c.due("one that is sent leaves room", x.frame(1, 1, 4, 64), 19);
        c.due("for one", x.frame(1, 1, 4, 64), 0);
        c.due("dropped(0)", x.dropped(0), 2);
    }

    private static void someCopiesWithoutRoom(Check c) {
        EthernetGates x = new EthernetGates(3);
        x.link(1, 1);
        x.link(2, 1);
        x.link(3, 1);
        x.learn(1, 2, -1);
        for (int i = 1; i <= 16; i++) {
            x.frame(1, 1, 0, 64);
        }
        c.due("room at port 3 alone", x.frame(1, 2, 0, 64), 17);
        c.due("dropped(0)", x.dropped(0), 1);
        c.due("link(3, 0)", x.link(3, 0), 1);
    }
}
