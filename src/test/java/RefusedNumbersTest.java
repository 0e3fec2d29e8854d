/** REFUSALS change nothing: each -1, for a number that is unknown. */
public final class RefusedNumbersTest {
    private static final int[] NO_PORTS = {0, -1, Refused.PORTS + 1, 17, Integer.MIN_VALUE, Integer.MAX_VALUE};
    private static final int[] NO_RANKS = {-1, 8, Integer.MIN_VALUE, Integer.MAX_VALUE};

    public static void main(String[] args) {
        Check c = new Check();
        for (int port : NO_PORTS) {
            noPort(c, port);
        }
        for (int rank : NO_RANKS) {
            noRank(c, rank);
        }
        noneThatLeft(c);
        noStream(c);
        c.end();
    }

    private static void noPort(Check c, int port) {
        Refused.answers(c, "link: -1 there is none", -1, x -> x.link(port, 50));
        Refused.answers(c, "link: -1 there is none", -1, x -> x.link(port, 0));
        Refused.answers(c, "gate: -1 there is no port", -1, x -> x.gate(port, 5, 0, 10));
        Refused.answers(c, "frame: -1 there is no port", -1, x -> x.frame(port, 1, 0, 64));
        Refused.answers(c, "learn: -1 there is no port", -1, x -> x.learn(5, port, 0));
        Refused.answers(c, "learn: -1 there is no port", -1, x -> x.learn(5, port, -1));
        Refused.answers(c, "credit: -1 there is no port", -1, x -> x.credit(port, 4, 1, 1));
        Refused.answers(c, "clock: -1 there is no port", -1, x -> x.clock(port, 60));
        Refused.answers(c, "service: -1 there is no such port", -1, x -> x.service(1, port));
        Refused.answers(c, "service: -1 there is no such port", -1, x -> x.service(100, port));
    }

    private static void noRank(Check c, int rank) {
        Refused.answers(c, "gate: -1 there is no rank", -1, x -> x.gate(2, rank, 0, 10));
        Refused.answers(c, "credit: -1 there is no rank", -1, x -> x.credit(2, rank, 1, 1));
    }

    private static void noneThatLeft(Check c) {
        int count = (int) Refused.busy(c, true).left(-1, 0).got();
        c.isTrue("some LEFT already", count > 0);
        int[] none = {count, count + 1, 4999, 5000, -2, Integer.MIN_VALUE, Integer.MAX_VALUE};
        for (int i : none) {
            Refused.answers(c, "left: -1 there is none", -1, x -> x.left(i, 0));
            Refused.answers(c, "left: -1 there is none", -1, x -> x.left(i, 3));
        }
        for (int what = 1; what < 4; what++) {
            int w = what;
            Refused.answers(c, "left: i = -1 only with what = 0", -1, x -> x.left(-1, w));
        }
        c.sentence("left: -1 there is none at first");
        Gates fresh = new Gates(c, 2);
        fresh.left(0, 0).is(-1);
        fresh.left(0, 3).is(-1);
        fresh.left(-1, 0).is(0);
    }

    private static void noStream(Check c) {
        int[] none = {7, 8008, 0, -1, -8, -12, Integer.MIN_VALUE, Integer.MAX_VALUE};
        for (int stream : none) {
            Refused.answers(c, "filter: -1 there is no such stream", -1, x -> x.filter(stream, 0));
            Refused.answers(c, "filter: -1 there is no such stream", -1, x -> x.filter(stream, -1));
        }
    }
}
