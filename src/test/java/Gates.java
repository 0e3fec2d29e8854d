/** An object of the class as the tests of the boundaries use it: never for more than the 512 calls that are promised. */
final class Gates {
    private static final int MOST_CALLS = 512;
    private static final long THREW = Long.MIN_VALUE;

    private final Check check;
    private final EthernetGates real;
    private int calls;

    Gates(Check check, int ports) {
        this.check = check;
        real = new EthernetGates(ports);
    }

    /** So many ports, each with a LINK of this speed. */
    static Gates linked(Check check, int ports, long speed) {
        Gates x = new Gates(check, ports);
        for (int port = 1; port <= ports; port++) {
            x.link(port, speed);
        }
        return x;
    }

    /** What a call answered; who does not ask whether it is due only makes the call. */
    record Answer(Check check, String call, long got) {
        void is(long want) {
            check.due(call, got, want);
        }

        void isArithmeticException() {
            check.due(call + " (the least number: it threw)", got, THREW);
        }
    }

    int callsMade() {
        return calls;
    }

    Answer link(int port, long perMicro) {
        count();
        return answer("link(" + port + ", " + perMicro + ")", real.link(port, perMicro));
    }

    Answer gate(int port, int rank, long from, long to) {
        count();
        return answer("gate(" + port + ", " + rank + ", " + from + ", " + to + ")", real.gate(port, rank, from, to));
    }

    Answer cycle(long micros) {
        count();
        long got;
        try {
            got = real.cycle(micros);
        } catch (ArithmeticException e) {
            got = THREW;
        }
        return answer("cycle(" + micros + ")", got);
    }

    Answer frame(int port, int to, int rank, int length) {
        count();
        return answer("frame(" + port + ", " + to + ", " + rank + ", " + length + ")",
                real.frame(port, to, rank, length));
    }

    Answer run(long micros) {
        count();
        return answer("run(" + micros + ")", real.run(micros));
    }

    Answer left(int i, int what) {
        count();
        return answer("left(" + i + ", " + what + ")", real.left(i, what));
    }

    Answer learn(int address, int port, long t) {
        count();
        return answer("learn(" + address + ", " + port + ", " + t + ")", real.learn(address, port, t));
    }

    Answer credit(int port, int rank, long up, long down) {
        count();
        return answer("credit(" + port + ", " + rank + ", " + up + ", " + down + ")",
                real.credit(port, rank, up, down));
    }

    Answer filter(int stream, long perMillis) {
        count();
        return answer("filter(" + stream + ", " + perMillis + ")", real.filter(stream, perMillis));
    }

    Answer clock(int port, long delay) {
        count();
        return answer("clock(" + port + ", " + delay + ")", real.clock(port, delay));
    }

    Answer dropped(int what) {
        count();
        return answer("dropped(" + what + ")", real.dropped(what));
    }

    Answer service(int offer, int find) {
        count();
        return answer("service(" + offer + ", " + find + ")", real.service(offer, find));
    }

    /** Runs so many ticks in as few calls as may be. */
    void pass(long ticks) {
        long rest = ticks;
        while (rest > 2000) {
            run(2000);
            rest -= 2000;
        }
        run(rest);
    }

    /** Asks for the i-th that LEFT: this frame, by this port, from begin to end. */
    void departed(int i, int frame, int port, long begin, long end) {
        left(i, 0).is(frame);
        left(i, 1).is(port);
        left(i, 2).is(begin);
        left(i, 3).is(end);
    }

    /** Asks how many were dropped for each of the four reasons. */
    void drops(int noRoom, int rate, int nowhere, int lostLink) {
        dropped(0).is(noRoom);
        dropped(1).is(rate);
        dropped(2).is(nowhere);
        dropped(3).is(lostLink);
    }

    private void count() {
        calls++;
        if (calls > MOST_CALLS) {
            throw new IllegalStateException("a test makes more calls than the document promises");
        }
    }

    private Answer answer(String call, long got) {
        return new Answer(check, call, got);
    }
}
