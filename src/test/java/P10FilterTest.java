/** Promise 10: RATES of STREAMS. */
public final class P10FilterTest {
    public static void main(String[] args) {
        Check c = new Check();
        refusals(c);
        rates(c);
        thousands(c);
        takenAreAllThatPass(c);
        c.end();
    }

    private static void refusals(Check c) {
        EthernetGates x = new EthernetGates(2);
        c.due("filter(7, -9)", x.filter(7, -9), -1);
        c.due("filter(8008, 0)", x.filter(8008, 0), -1);
        c.due("filter(0, 0)", x.filter(0, 0), -1);
        c.due("filter(-1, 0)", x.filter(-1, 0), -1);
        c.due("filter(-8, 0)", x.filter(-8, 0), -1);
        c.due("filter(least, 0)", x.filter(Integer.MIN_VALUE, 0), -1);
        c.due("filter(most, 0)", x.filter(Integer.MAX_VALUE, 0), -1);
        c.due("filter(8, -2)", x.filter(8, -2), -2);
        c.due("filter(8, least)", x.filter(8, Long.MIN_VALUE), -2);
        c.due("filter(8, most)", x.filter(8, Long.MAX_VALUE), 0);
        c.due("filter(8007, 0)", x.filter(8007, 0), 0);
        x.link(1, 1);
        x.link(2, 1);
        c.due("a very high RATE", x.frame(1, 1, 0, 64), 1);
        c.due("a RATE of 0", x.frame(1, 1000, 7, 64), 0);
        c.due("a refused RATE is not set", x.filter(8, -3), -2);
        c.due("a very high RATE", x.frame(1, 1, 0, 64), 3);
    }

    private static void rates(Check c) {
        EthernetGates x = new EthernetGates(2);
        x.link(1, 1);
        x.link(2, 1);
        x.filter(8 * 5 + 3, 2);
        c.due("1st", x.frame(1, 5, 3, 64), 1);
        c.due("2nd, by the other port", x.frame(2, 5, 3, 64), 2);
        c.due("3rd", x.frame(1, 5, 3, 64), 0);
        c.due("dropped(1)", x.dropped(1), 1);
        c.due("dropped(2)", x.dropped(2), 0);
        c.due("another rank", x.frame(1, 5, 2, 64), 4);
        c.due("another address", x.frame(1, 6, 3, 64), 5);
        c.due("two were taken", x.filter(43, 3), 2);
        c.due("one more", x.frame(1, 5, 3, 64), 6);
        c.due("and no more", x.frame(1, 5, 3, 64), 0);
        c.due("three were taken", x.filter(43, -1), 3);
        c.due("no RATE", x.frame(1, 5, 3, 64), 8);
        c.due("four were taken", x.filter(43, 0), 4);
        c.due("dropped(1)", x.dropped(1), 2);
    }

    private static void thousands(Check c) {
        EthernetGates x = new EthernetGates(2);
        x.link(1, 1);
        x.link(2, 1);
        x.run(500);
        x.filter(8, 1);
        c.due("at 500", x.frame(1, 1, 0, 64), 1);
        x.run(499);
        c.due("at 999", x.frame(1, 1, 0, 64), 0);
        c.due("taken at 999", x.filter(8, 1), 1);
        x.run(1);
        c.due("taken at 1000", x.filter(8, 1), 0);
        c.due("at 1000", x.frame(1, 1, 0, 64), 3);
        c.due("at 1000 again", x.frame(1, 1, 0, 64), 0);
        x.run(2000);
        c.due("at 3000", x.frame(1, 1, 0, 64), 5);
        c.due("taken at 3000", x.filter(8, 1), 1);
    }

    private static void takenAreAllThatPass(Check c) {
        EthernetGates x = new EthernetGates(2);
        x.link(1, 1);
        c.due("nowhere to go", x.frame(1, 1, 0, 64), 0);
        x.link(2, 1);
        for (int i = 0; i < 17; i++) {
            x.frame(1, 1, 0, 64);
        }
        c.due("those without a way or room were taken", x.filter(8, 0), 18);
        c.due("the RATE drops first", x.frame(1, 1, 0, 64), 0);
        c.due("dropped(0)", x.dropped(0), 1);
        c.due("dropped(1)", x.dropped(1), 1);
        c.due("dropped(2)", x.dropped(2), 1);
    }
}
