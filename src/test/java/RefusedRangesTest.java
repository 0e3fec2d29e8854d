/** REFUSALS change nothing: each -2, for what is outside a range. */
public final class RefusedRangesTest {
    private static final long OVER_INT = 1L << 32;

    public static void main(String[] args) {
        Check c = new Check();
        link(c);
        gate(c);
        cycle(c);
        frame(c);
        run(c);
        left(c);
        learn(c);
        credit(c);
        filter(c);
        clock(c);
        dropped(c);
        service(c);
        c.end();
    }

    private static void link(Check c) {
        long[] speeds = {-1, 10001, Long.MIN_VALUE, Long.MAX_VALUE, OVER_INT, OVER_INT + 10, -OVER_INT};
        for (long speed : speeds) {
            Refused.answers(c, "link: -2 the speed is not 0 .. 10000", -2, x -> x.link(1, speed));
            Refused.answers(c, "link: -2 the speed is not 0 .. 10000", -2, x -> x.link(Refused.NO_LINK, speed));
        }
    }

    private static void gate(Check c) {
        long[][] windows = {
            {-1, 10}, {-1, 0}, {Long.MIN_VALUE, 10}, {10, 10}, {0, 0}, {11, 10}, {Refused.CYCLE, Refused.CYCLE},
            {0, Refused.CYCLE + 1}, {Refused.CYCLE, Refused.CYCLE + 1}, {0, Long.MAX_VALUE}, {0, OVER_INT + 5},
            {OVER_INT, OVER_INT + 5}, {Long.MIN_VALUE, Long.MAX_VALUE}, {Long.MAX_VALUE, Long.MIN_VALUE}
        };
        for (long[] w : windows) {
            Refused.answers(c, "gate: -2 not 0 <= from < to <= the CYCLE", -2, x -> x.gate(2, 5, w[0], w[1]));
        }
    }

    private static void cycle(Check c) {
        long[] outside = {-1, Long.MIN_VALUE, 1000001, Long.MAX_VALUE, OVER_INT, OVER_INT + 500, -OVER_INT + 500};
        for (long micros : outside) {
            Refused.answers(c, "cycle: -2 it is below 0, above 1000000", -2, x -> x.cycle(micros));
        }
        long[] tooShort = {Refused.LAST_WINDOW_END - 1, 190, 1};
        for (long micros : tooShort) {
            Refused.answers(c, "cycle: -2 or less than where a WINDOW ends", -2, x -> x.cycle(micros));
        }
        Refused.answers(c, "cycle: 0 is less than where a WINDOW ends", -2, x -> x.cycle(0));
        Refused.throwsArithmetic(c, "cycle: ArithmeticException for 0 (if there are no WINDOWS)", x -> x.cycle(0));
    }

    private static void frame(Check c) {
        int[] addresses = {0, 1001, -1, Integer.MIN_VALUE, Integer.MAX_VALUE};
        for (int address : addresses) {
            Refused.answers(c, "frame: -2 the address is none", -2, x -> x.frame(1, address, 4, 64));
        }
        int[] ranks = {-1, 8, Integer.MIN_VALUE, Integer.MAX_VALUE};
        for (int rank : ranks) {
            Refused.answers(c, "frame: -2 the rank is none", -2, x -> x.frame(1, 2, rank, 64));
        }
        int[] lengths = {63, 1523, 0, -64, Integer.MIN_VALUE, Integer.MAX_VALUE};
        for (int length : lengths) {
            Refused.answers(c, "frame: -2 the length is not 64 .. 1522", -2, x -> x.frame(1, 2, 4, length));
        }
    }

    private static void run(Check c) {
        long[] ticks = {-1, 2001, Long.MIN_VALUE, Long.MAX_VALUE, OVER_INT, OVER_INT + 100, -OVER_INT + 100};
        for (long micros : ticks) {
            Refused.answers(c, "run: -2 micros is not 0 .. 2000", -2, x -> x.run(micros));
        }
    }

    private static void left(Check c) {
        int[] whats = {-1, 4, Integer.MIN_VALUE, Integer.MAX_VALUE};
        for (int what : whats) {
            Refused.answers(c, "left: -2 no such what", -2, x -> x.left(0, what));
        }
    }

    private static void learn(Check c) {
        int[] addresses = {0, 1001, -1, Integer.MIN_VALUE, Integer.MAX_VALUE};
        for (int address : addresses) {
            Refused.answers(c, "learn: -2 the address is none", -2, x -> x.learn(address, 1, 0));
            Refused.answers(c, "learn: -2 the address is none", -2, x -> x.learn(address, 1, -1));
        }
        long[] times = {-2, Long.MIN_VALUE, -OVER_INT};
        for (long t : times) {
            Refused.answers(c, "learn: -2 t is below -1", -2, x -> x.learn(Refused.LEARNED_ADDRESS, 3, t));
        }
        long[] later = {Refused.NOW + 1, Long.MAX_VALUE, OVER_INT};
        for (long t : later) {
            Refused.answers(c, "learn: -2 t is later than the time at hand", -2,
                    x -> x.learn(Refused.LEARNED_ADDRESS, 3, t));
        }
    }

    private static void credit(Check c) {
        long[] downs = {0, -1, 1001, Long.MIN_VALUE, Long.MAX_VALUE, OVER_INT + 1};
        for (long down : downs) {
            Refused.answers(c, "credit: -2 down is not 1 .. 1000", -2,
                    x -> x.credit(Refused.SENDING, Refused.SHAPED_RANK, 1, down));
            Refused.answers(c, "credit: -2 down is not 1 .. 1000, with up 0", -2,
                    x -> x.credit(Refused.SENDING, Refused.SHAPED_RANK, 0, down));
        }
        long[][] fractions = {
            {-1, 1}, {-1, 1000}, {10001, 1}, {20001, 2}, {30001, 3}, {10000001, 1000}, {Long.MAX_VALUE, 1},
            {Long.MAX_VALUE, 1000}, {Long.MIN_VALUE, 1}, {Long.MIN_VALUE, 1000}, {OVER_INT + 1, 1}
        };
        for (long[] f : fractions) {
            Refused.answers(c, "credit: -2 up / down is not 0 .. 10000", -2,
                    x -> x.credit(Refused.SENDING, Refused.SHAPED_RANK, f[0], f[1]));
        }
    }

    private static void filter(Check c) {
        long[] rates = {-2, Long.MIN_VALUE, -OVER_INT};
        for (long rate : rates) {
            Refused.answers(c, "filter: -2 the rate is below -1", -2, x -> x.filter(Refused.RATED_STREAM, rate));
        }
    }

    private static void clock(Check c) {
        long[] delays = {-1, 1000001, Long.MIN_VALUE, Long.MAX_VALUE, OVER_INT + 60, -OVER_INT + 60};
        for (long delay : delays) {
            Refused.answers(c, "clock: -2 the delay is not 0 .. 1000000", -2, x -> x.clock(2, delay));
        }
    }

    private static void dropped(Check c) {
        int[] whats = {-1, 4, Integer.MIN_VALUE, Integer.MAX_VALUE};
        for (int what : whats) {
            Refused.answers(c, "dropped: -2 no such what", -2, x -> x.dropped(what));
        }
    }

    private static void service(Check c) {
        int[] none = {-1, 101, Integer.MIN_VALUE, Integer.MAX_VALUE};
        for (int service : none) {
            Refused.answers(c, "service: -2 no such service to offer", -2, x -> x.service(service, 1));
            Refused.answers(c, "service: -2 no such service to find", -2, x -> x.service(0, service));
        }
        Refused.answers(c, "service: -2 no such service to find", -2, x -> x.service(0, 0));
    }
}
