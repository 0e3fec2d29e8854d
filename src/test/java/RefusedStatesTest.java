/** REFUSALS change nothing: each -3 and -4; which of two is first; and that the look after a refusal sees changes. */
public final class RefusedStatesTest {
    public static void main(String[] args) {
        Check c = new Check();
        notInThisState(c);
        noRoom(c);
        unknownComesFirst(c);
        outsideComesBeforeState(c);
        changesAreSeen(c);
        c.end();
    }

    private static void notInThisState(Check c) {
        long[] otherSpeeds = {1, Refused.SENDING_SPEED - 1, Refused.SENDING_SPEED + 1, 10000};
        for (long speed : otherSpeeds) {
            Refused.answers(c, "link: -3 it is sending and the speed is another one above 0", -3,
                    x -> x.link(Refused.SENDING, speed));
        }
        Refused.answers(c, "link: the same speed is no other one", 0,
                x -> x.link(Refused.SENDING, Refused.SENDING_SPEED));
        Refused.answers(c, "frame: -3 the port has no LINK", -3, x -> x.frame(Refused.NO_LINK, 2, 4, 64));
        long[] times = {0, Refused.NOW};
        for (long t : times) {
            Refused.answers(c, "learn: -3 it is fixed, and this is not", -3,
                    x -> x.learn(Refused.FIXED_ADDRESS, 3, t));
            Refused.answers(c, "learn: -3 also at the port where it is fixed", -3,
                    x -> x.learn(Refused.FIXED_ADDRESS, Refused.SENDING, t));
        }
    }

    // frame's -4 has no test: 5000 frames are more than the 512 calls for which an object is used.
    private static void noRoom(Check c) {
        Refused.answers(c, "gate: -4 it has 8", -4, x -> x.gate(Refused.FULL_PORT, Refused.FULL_RANK, 0, 1));
        Refused.answers(c, "gate: -4 it has 8", -4,
                x -> x.gate(Refused.FULL_PORT, Refused.FULL_RANK, 199, Refused.CYCLE));
    }

    private static void unknownComesFirst(Check c) {
        String first = "the first that fits: -1 before -2";
        Refused.answers(c, first, -1, x -> x.link(5, 10001));
        Refused.answers(c, first, -1, x -> x.link(0, -1));
        Refused.answers(c, first, -1, x -> x.gate(5, 5, 10, 10));
        Refused.answers(c, first, -1, x -> x.gate(2, 8, 0, Refused.CYCLE + 1));
        Refused.answers(c, first, -1, x -> x.gate(0, -1, -1, -1));
        Refused.answers(c, first, -1, x -> x.frame(5, 0, 0, 64));
        Refused.answers(c, first, -1, x -> x.frame(0, 1, 8, 64));
        Refused.answers(c, first, -1, x -> x.frame(-1, 1, 0, 63));
        Refused.answers(c, first, -1, x -> x.left(1000, 4));
        Refused.answers(c, first, -1, x -> x.left(-2, -1));
        Refused.answers(c, first, -1, x -> x.left(-1, 4));
        Refused.answers(c, first, -1, x -> x.left(-1, -1));
        Refused.answers(c, first, -1, x -> x.learn(0, 5, 0));
        Refused.answers(c, first, -1, x -> x.learn(5, 0, -2));
        Refused.answers(c, first, -1, x -> x.learn(5, 5, Refused.NOW + 1));
        Refused.answers(c, first, -1, x -> x.credit(5, 4, 1, 0));
        Refused.answers(c, first, -1, x -> x.credit(2, 8, 10001, 1));
        Refused.answers(c, first, -1, x -> x.filter(7, -2));
        Refused.answers(c, first, -1, x -> x.filter(8008, -2));
        Refused.answers(c, first, -1, x -> x.clock(5, -1));
        Refused.answers(c, first, -1, x -> x.clock(0, 1000001));
        Refused.answers(c, first, -1, x -> x.service(101, 5));
        Refused.answers(c, first, -1, x -> x.service(-1, 0));
        Refused.answers(c, "the first that fits: -1 before -3", -1, x -> x.learn(Refused.FIXED_ADDRESS, 5, 0));
    }

    private static void outsideComesBeforeState(Check c) {
        String first = "the first that fits: -2 before -3";
        Refused.answers(c, first, -2, x -> x.link(Refused.SENDING, 10001));
        Refused.answers(c, first, -2, x -> x.link(Refused.SENDING, -1));
        Refused.answers(c, first, -2, x -> x.frame(Refused.NO_LINK, 0, 0, 64));
        Refused.answers(c, first, -2, x -> x.frame(Refused.NO_LINK, 1, 8, 64));
        Refused.answers(c, first, -2, x -> x.frame(Refused.NO_LINK, 1, 0, 1523));
        Refused.answers(c, first, -2, x -> x.learn(Refused.FIXED_ADDRESS, 3, -2));
        Refused.answers(c, first, -2, x -> x.learn(Refused.FIXED_ADDRESS, 3, Refused.NOW + 1));
        Refused.answers(c, "the first that fits: -2 before -4", -2,
                x -> x.gate(Refused.FULL_PORT, Refused.FULL_RANK, 10, 10));
        Refused.answers(c, "the first that fits: -2 before -4", -2,
                x -> x.gate(Refused.FULL_PORT, Refused.FULL_RANK, 0, Refused.CYCLE + 1));
    }

    // Without this a look that sees nothing would let every refusal pass.
    private static void changesAreSeen(Check c) {
        Refused.isSeen(c, "another speed", x -> x.link(1, 10));
        Refused.isSeen(c, "a new LINK", x -> x.link(Refused.NO_LINK, 10));
        Refused.isSeen(c, "a lost LINK", x -> x.link(Refused.SENDING, 0));
        Refused.isSeen(c, "a WINDOW more", x -> x.gate(1, 3, 0, Refused.CYCLE));
        Refused.isSeen(c, "another CYCLE", x -> x.cycle(Refused.CYCLE + 1));
        Refused.isSeen(c, "a CYCLE as short as may be", x -> x.cycle(Refused.LAST_WINDOW_END));
        Refused.isSeen(c, "a frame", x -> x.frame(1, 2, 2, 64));
        Refused.isSeen(c, "a frame with nowhere to go", x -> x.frame(1, 3, 2, 64));
        Refused.isSeen(c, "a tick", x -> x.run(1));
        Refused.isSeen(c, "an address at another port", x -> x.learn(Refused.LEARNED_ADDRESS, 2, 0));
        Refused.isSeen(c, "an address that is younger", x -> x.learn(Refused.LEARNED_ADDRESS, 3, Refused.NOW));
        Refused.isSeen(c, "an address fixed elsewhere", x -> x.learn(Refused.FIXED_ADDRESS, 3, -1));
        Refused.isSeen(c, "an address not known before", x -> x.learn(5, 1, 0));
        Refused.isSeen(c, "a CREDIT of 0", x -> x.credit(Refused.SENDING, Refused.SHAPED_RANK, 5, 3));
        Refused.isSeen(c, "SHAPED no more", x -> x.credit(Refused.SENDING, Refused.SHAPED_RANK, 0, 1));
        Refused.isSeen(c, "another RATE", x -> x.filter(Refused.RATED_STREAM, 5));
        Refused.isSeen(c, "a RATE no more", x -> x.filter(Refused.RATED_STREAM, -1));
        Refused.isSeen(c, "another OFFSET", x -> x.clock(Refused.SENDING, 31));
        Refused.isSeen(c, "a service of another port", x -> x.service(1, 3));
        Refused.isSeen(c, "a service that was not offered", x -> x.service(2, 1));
    }
}
