import java.util.ArrayList;
import java.util.List;

/**
 * A busy switch is asked a call that is due to be refused, and then all that its face can show is looked at: it must
 * be what the same switch shows that was not asked.
 */
final class Refused {
    /** The time of the busy switch. */
    static final int NOW = 45;
    /** Four ports; the last one has no LINK. */
    static final int PORTS = 4;
    static final int NO_LINK = 4;
    /** This port sends at this speed, and frames wait there. */
    static final int SENDING = 2;
    static final int SENDING_SPEED = 10;
    static final int CYCLE = 200;
    static final int LAST_WINDOW_END = 195;
    /** This rank of this port has eight WINDOWS. */
    static final int FULL_PORT = 3;
    static final int FULL_RANK = 7;
    /** The port sends a frame of this rank, which is SHAPED; its CREDIT is below 0, and more such frames wait. */
    static final int SHAPED_RANK = 7;
    static final int FIXED_ADDRESS = 1;
    static final int LEARNED_ADDRESS = 2;
    /** This rank of the learned address is a stream with a RATE. */
    static final int RATED_RANK = 4;
    static final int RATED_STREAM = 8 * LEARNED_ADDRESS + RATED_RANK;

    interface Call {
        Gates.Answer on(Gates x);
    }

    private Refused() { }

    /** Asks that the busy switch answers the call so, and stays as it was. */
    static void answers(Check c, String sentence, int due, Call call) {
        c.sentence(sentence);
        Gates asked = busy(c, true);
        call.on(asked).is(due);
        staysSame(c, asked, busy(c, true));
    }

    /** Asks that the switch without WINDOWS throws an ArithmeticException, and stays as it was. */
    static void throwsArithmetic(Check c, String sentence, Call call) {
        c.sentence(sentence);
        Gates asked = busy(c, false);
        call.on(asked).isArithmeticException();
        staysSame(c, asked, busy(c, false));
    }

    /** Asks that the look sees what a call that is not refused changes. */
    static void isSeen(Check c, String change, Call call) {
        c.sentence(change);
        Gates asked = busy(c, true);
        call.on(asked);
        List<String> with = look(asked);
        c.isTrue("the look sees it", !with.equals(look(busy(c, true))));
    }

    private static void staysSame(Check c, Gates asked, Gates twin) {
        List<String> with = look(asked);
        List<String> without = look(twin);
        c.due("answers after it", with.size(), without.size());
        for (int i = 0; i < Math.min(with.size(), without.size()); i++) {
            c.isTrue("after it " + with.get(i) + ", without it " + without.get(i),
                    with.get(i).equals(without.get(i)));
        }
    }

    static Gates busy(Check c, boolean windows) {
        Gates x = new Gates(c, PORTS);
        x.link(1, 100);
        x.link(SENDING, SENDING_SPEED);
        x.link(FULL_PORT, 67);
        x.link(NO_LINK, 5);
        x.frame(1, 9, 0, 64);
        x.link(NO_LINK, 0);
        x.cycle(CYCLE);
        for (int i = 0; i < 8 && windows; i++) {
            x.gate(FULL_PORT, FULL_RANK, 25 * i, 25 * i + 20);
        }
        if (windows) {
            x.gate(SENDING, 5, 30, 190);
        }
        x.clock(SENDING, 30);
        x.clock(FULL_PORT, 150);
        x.credit(SENDING, SHAPED_RANK, 5, 3);
        x.credit(FULL_PORT, RATED_RANK, 7, 2);
        x.learn(FIXED_ADDRESS, SENDING, -1);
        x.learn(LEARNED_ADDRESS, FULL_PORT, 0);
        x.learn(3, NO_LINK, -1);
        x.filter(RATED_STREAM, 4);
        x.service(1, 2);
        x.service(100, 3);
        framesComeIn(x);
        x.run(NOW);
        return x;
    }

    private static void framesComeIn(Gates x) {
        x.frame(1, 3, 0, 64);
        x.filter(8 * 7 + 1, 0);
        x.frame(1, 7, 1, 64);
        for (int i = 0; i < 17; i++) {
            x.frame(1, FIXED_ADDRESS, 6, 64);
        }
        for (int i = 0; i < 3; i++) {
            x.frame(1, LEARNED_ADDRESS, RATED_RANK, 64);
            x.frame(1, FIXED_ADDRESS, SHAPED_RANK, 64 + i);
        }
        x.frame(1, FIXED_ADDRESS, 5, 100);
        x.frame(1, 4, 7, 64);
    }

    private static List<String> look(Gates x) {
        List<String> seen = new ArrayList<>();
        see(seen, x.learn(900, 1, NOW));
        see(seen, x.learn(900, 1, NOW + 1));
        lookAtNumbers(x, seen);
        lookAtTables(x, seen);
        see(seen, x.run(600));
        moreFrames(x, seen);
        see(seen, x.run(2000));
        see(seen, x.run(2999 - NOW - 2600));
        see(seen, x.frame(1, LEARNED_ADDRESS, 1, 64));
        see(seen, x.run(11));
        see(seen, x.learn(LEARNED_ADDRESS, 1, 3010));
        see(seen, x.cycle(LAST_WINDOW_END - 1));
        see(seen, x.cycle(LAST_WINDOW_END));
        lookAtDepartures(x, seen);
        for (int port = 1; port <= PORTS; port++) {
            see(seen, x.link(port, 0));
        }
        return seen;
    }

    private static void lookAtNumbers(Gates x, List<String> seen) {
        for (int what = 0; what < 4; what++) {
            see(seen, x.dropped(what));
        }
        see(seen, x.left(-1, 0));
        see(seen, x.service(0, 1));
        see(seen, x.service(0, 2));
        see(seen, x.service(0, 100));
        see(seen, x.frame(1, 3, 2, 64));
        see(seen, x.frame(NO_LINK, 3, 2, 64));
    }

    private static void lookAtTables(Gates x, List<String> seen) {
        for (int port = 1; port <= PORTS; port++) {
            see(seen, x.clock(port, 1000000));
        }
        see(seen, x.learn(FIXED_ADDRESS, SENDING, 0));
        see(seen, x.learn(FIXED_ADDRESS, SENDING, -1));
        see(seen, x.learn(3, NO_LINK, -1));
        see(seen, x.learn(5, 1, 0));
        see(seen, x.gate(1, 0, 0, CYCLE + 1));
        see(seen, x.frame(1, LEARNED_ADDRESS, RATED_RANK, 64));
        see(seen, x.frame(1, LEARNED_ADDRESS, RATED_RANK, 64));
        see(seen, x.filter(RATED_STREAM, 4));
    }

    private static void moreFrames(Gates x, List<String> seen) {
        for (int rank = 0; rank < 8; rank++) {
            see(seen, x.frame(1, 11, rank, 70));
            see(seen, x.frame(3, 11, rank, 71));
        }
        for (int rank = 0; rank < 8; rank++) {
            for (int port = 1; port <= PORTS; port++) {
                see(seen, x.gate(port, rank, 0, LAST_WINDOW_END));
            }
        }
    }

    private static void lookAtDepartures(Gates x, List<String> seen) {
        long count = x.left(-1, 0).got();
        for (int i = 0; i < count && x.callsMade() < 500; i++) {
            see(seen, x.left(i, 0));
            see(seen, x.left(i, 2));
        }
    }

    private static void see(List<String> seen, Gates.Answer answer) {
        seen.add(answer.call() + " answers " + answer.got());
    }
}
