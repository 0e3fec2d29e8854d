/** Promise 13: services are offered for a time. */
public final class P13ServiceTest {
    public static void main(String[] args) {
        Check c = new Check();
        refusals(c);
        offers(c);
        c.end();
    }

    private static void refusals(Check c) {
        EthernetGates x = new EthernetGates(3);
        c.due("service(1, 4)", x.service(1, 4), -1);
        c.due("service(1, 0)", x.service(1, 0), -1);
        c.due("service(101, 4)", x.service(101, 4), -1);
        c.due("service(-1, -1)", x.service(-1, -1), -1);
        c.due("service(101, 3)", x.service(101, 3), -2);
        c.due("service(-1, 3)", x.service(-1, 3), -2);
        c.due("service(least, 3)", x.service(Integer.MIN_VALUE, 3), -2);
        c.due("service(0, 0)", x.service(0, 0), -2);
        c.due("service(0, 101)", x.service(0, 101), -2);
        c.due("service(0, -1)", x.service(0, -1), -2);
        c.due("service(0, most)", x.service(0, Integer.MAX_VALUE), -2);
        c.due("service(0, 1)", x.service(0, 1), 0);
        c.due("service(0, 100)", x.service(0, 100), 0);
    }

    private static void offers(Check c) {
        EthernetGates x = new EthernetGates(3);
        x.run(5);
        c.due("service(1, 2)", x.service(1, 2), 2);
        c.due("service(100, 3)", x.service(100, 3), 3);
        c.due("service(0, 1)", x.service(0, 1), 2);
        c.due("service(0, 100)", x.service(0, 100), 3);
        c.due("service(0, 2)", x.service(0, 2), 0);
        x.run(999);
        c.due("999 ticks later", x.service(0, 1), 2);
        c.due("offered by another port", x.service(100, 1), 1);
        x.run(1);
        c.due("1000 ticks later", x.service(0, 1), 0);
        c.due("offered later", x.service(0, 100), 1);
        c.due("offered anew", x.service(1, 3), 3);
        x.run(998);
        c.due("999 ticks later", x.service(0, 100), 1);
        x.run(1);
        c.due("the port before does not come back", x.service(0, 100), 0);
        c.due("999 ticks later", x.service(0, 1), 3);
        x.run(1);
        c.due("1000 ticks later", x.service(0, 1), 0);
    }
}
