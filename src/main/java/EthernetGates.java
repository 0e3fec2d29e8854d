import java.util.ArrayList;

/** A switch for lines in a car. The words in capitals below are the document's terms. */
public final class EthernetGates {
    private static final int UNKNOWN = -1;
    private static final int OUTSIDE = -2;
    private static final int NOT_NOW = -3;
    private static final int NO_ROOM = -4;

    private static final int MOST_PORTS = 16;
    private static final int USUAL_PORTS = 4;
    private static final int RANKS = 8;
    private static final int ADDRESSES = 1000;
    private static final int SERVICES = 100;
    private static final int MOST_FRAMES = 5000;
    private static final int MOST_TOLD = 5000;
    private static final int QUEUE_ROOM = 16;
    private static final int MOST_WINDOWS = 8;

    private static final int SHORTEST = 64;
    private static final int LONGEST = 1522;
    private static final int OCTETS_AROUND = 20;
    private static final int BITS_OF_OCTET = 8;

    private static final long MOST_SPEED = 10000;
    private static final long FIRST_CYCLE = 1000;
    private static final long MOST_CYCLE = 1000000;
    private static final long MOST_DELAY = 1000000;
    private static final long CLOCK_STEP = 100;
    private static final long MOST_DOWN = 1000;
    private static final long MOST_TICKS = 2000;
    private static final long TICKS_LEARNED = 3000;
    private static final long TICKS_OFFERED = 1000;
    private static final long TICKS_OF_RATE = 1000;
    private static final long FIXED = -1;
    private static final long NO_RATE = -1;

    private static final int BY_FULL_QUEUE = 0;
    private static final int BY_RATE = 1;
    private static final int BY_NO_WAY = 2;
    private static final int BY_LOST_LINK = 3;
    private static final int DROP_KINDS = 4;

    private final Port[] ports;
    private final Address[] addresses;
    private final ArrayList<Departure> departures;
    private final int[] drops;
    private final int[] offerers;
    private final long[] offeredUntil;
    private long now;
    private long cycleLength;
    private long lastWindowEnd;
    private int frames;
    private int departed;

    public EthernetGates(int ports) {
        int count = ports >= 1 && ports <= MOST_PORTS ? ports : USUAL_PORTS;
        this.ports = new Port[count];
        for (int i = 0; i < count; i++) {
            this.ports[i] = new Port(i + 1);
        }
        addresses = new Address[ADDRESSES + 1];
        departures = new ArrayList<>();
        drops = new int[DROP_KINDS];
        offerers = new int[SERVICES + 1];
        offeredUntil = new long[SERVICES + 1];
        cycleLength = FIRST_CYCLE;
    }

    public int link(int port, long perMicro) {
        Port p = findPort(port);
        if (p == null) {
            return UNKNOWN;
        }
        if (perMicro < 0 || perMicro > MOST_SPEED) {
            return OUTSIDE;
        }
        if (perMicro > 0 && perMicro != p.speed && p.isSending()) {
            return NOT_NOW;
        }
        p.speed = perMicro;
        if (perMicro > 0) {
            return 0;
        }
        int lost = p.loseFrames();
        drops[BY_LOST_LINK] += lost;
        return lost;
    }

    public int gate(int port, int rank, long from, long to) {
        Port p = findPort(port);
        if (p == null || !isRank(rank)) {
            return UNKNOWN;
        }
        if (from < 0 || from >= to || to > cycleLength) {
            return OUTSIDE;
        }
        PortRank r = p.ranks[rank];
        if (!r.addWindow(from, to)) {
            return NO_ROOM;
        }
        lastWindowEnd = Math.max(lastWindowEnd, to);
        return r.windows;
    }

    public int cycle(long micros) throws ArithmeticException {
        if (micros < 0 || micros > MOST_CYCLE || micros < lastWindowEnd) {
            return OUTSIDE;
        }
        if (micros == 0) {
            throw new ArithmeticException("a cycle has at least one tick");
        }
        cycleLength = micros;
        return 1;
    }

    public int frame(int port, int to, int rank, int length) {
        Port in = findPort(port);
        if (in == null) {
            return UNKNOWN;
        }
        if (!isAddress(to) || !isRank(rank) || length < SHORTEST || length > LONGEST) {
            return OUTSIDE;
        }
        if (in.speed == 0) {
            return NOT_NOW;
        }
        if (frames >= MOST_FRAMES) {
            return NO_ROOM;
        }
        frames++;
        Address address = addressOf(to);
        if (!address.streams[rank].takesOne(now)) {
            drops[BY_RATE]++;
            return 0;
        }
        return queueCopies(in, address.portAt(now), rank, length) > 0 ? frames : 0;
    }

    public int run(long micros) {
        if (micros < 0 || micros > MOST_TICKS) {
            return OUTSIDE;
        }
        int before = departed;
        long end = now + micros;
        for (int i = 0; i < MOST_TICKS && now < end; i++) {
            endSendings();
            beginSendings();
            long ticks = Math.min(end - now, ticksUntilChange());
            moveCredits(ticks);
            now += ticks;
        }
        return departed - before;
    }

    public int left(int i, int what) {
        if (i == -1 && what == 0) {
            return departed;
        }
        if (i < 0 || i >= departures.size()) {
            return UNKNOWN;
        }
        Departure d = departures.get(i);
        switch (what) {
            case 0:
                return d.frame;
            case 1:
                return d.port;
            case 2:
                return (int) d.begin;
            case 3:
                return (int) d.end;
            default:
                return OUTSIDE;
        }
    }

    public int learn(int address, int port, long t) {
        if (findPort(port) == null) {
            return UNKNOWN;
        }
        if (!isAddress(address) || t < FIXED || t > now) {
            return OUTSIDE;
        }
        Address a = addressOf(address);
        if (a.isFixed() && t != FIXED) {
            return NOT_NOW;
        }
        int before = a.portAt(now);
        a.port = port;
        a.since = t;
        return before;
    }

    public int credit(int port, int rank, long up, long down) {
        Port p = findPort(port);
        if (p == null || !isRank(rank)) {
            return UNKNOWN;
        }
        if (down < 1 || down > MOST_DOWN || up < 0 || up > MOST_SPEED * down) {
            return OUTSIDE;
        }
        p.ranks[rank].shape(up, down);
        return 1;
    }

    public int filter(int stream, long perMillis) {
        int address = stream / RANKS;
        if (stream < 0 || !isAddress(address)) {
            return UNKNOWN;
        }
        if (perMillis < NO_RATE) {
            return OUTSIDE;
        }
        Stream s = addressOf(address).streams[stream % RANKS];
        s.rate = perMillis;
        return s.takenAt(now);
    }

    public int clock(int port, long delay) {
        Port p = findPort(port);
        if (p == null) {
            return UNKNOWN;
        }
        if (delay < 0 || delay > MOST_DELAY) {
            return OUTSIDE;
        }
        long step = Math.max(-CLOCK_STEP, Math.min(CLOCK_STEP, delay - p.offset));
        p.offset += step;
        return (int) p.offset;
    }

    public int dropped(int what) {
        if (what < 0 || what >= drops.length) {
            return OUTSIDE;
        }
        return drops[what];
    }

    public int service(int offer, int find) {
        if (offer == 0) {
            return offererOf(find);
        }
        if (findPort(find) == null) {
            return UNKNOWN;
        }
        if (!isService(offer)) {
            return OUTSIDE;
        }
        offerers[offer] = find;
        offeredUntil[offer] = now + TICKS_OFFERED;
        return find;
    }

    private int offererOf(int service) {
        if (!isService(service)) {
            return OUTSIDE;
        }
        return now < offeredUntil[service] ? offerers[service] : 0;
    }

    private Port findPort(int number) {
        return number >= 1 && number <= ports.length ? ports[number - 1] : null;
    }

    // Most addresses are never used, so each is made when it is first spoken of.
    private Address addressOf(int number) {
        Address a = addresses[number];
        if (a == null) {
            a = new Address();
            addresses[number] = a;
        }
        return a;
    }

    private static boolean isRank(int rank) {
        return rank >= 0 && rank < RANKS;
    }

    private static boolean isAddress(int address) {
        return address >= 1 && address <= ADDRESSES;
    }

    private static boolean isService(int service) {
        return service >= 1 && service <= SERVICES;
    }

    /** Puts the newest frame into the QUEUES it goes to (at 0: to all ports) and tells how many took it. */
    private int queueCopies(Port in, int at, int rank, int length) {
        int ways = 0;
        int queued = 0;
        for (int i = 0; i < ports.length; i++) {
            Port out = ports[i];
            if (out == in || out.speed == 0 || (at != 0 && at != out.number)) {
                continue;
            }
            ways++;
            if (out.queue(frames, rank, length)) {
                queued++;
            }
        }
        drops[BY_FULL_QUEUE] += ways - queued;
        if (ways == 0) {
            drops[BY_NO_WAY]++;
        }
        return queued;
    }

    private void endSendings() {
        for (int i = 0; i < ports.length; i++) {
            Port p = ports[i];
            if (p.isSending() && p.sendEnd <= now) {
                if (departures.size() < MOST_TOLD) {
                    departures.add(new Departure(p.sentFrame, p.number, p.sendBegin, p.sendEnd));
                }
                departed++;
                p.sentFrame = 0;
            }
        }
    }

    private void beginSendings() {
        for (int i = 0; i < ports.length; i++) {
            ports[i].beginNext(now, cycleLength);
        }
    }

    // Until then each rank goes on sending or waiting, so its CREDIT can be moved over all those ticks at once.
    private long ticksUntilChange() {
        long ticks = MOST_TICKS;
        for (int i = 0; i < ports.length; i++) {
            ticks = Math.min(ticks, ports[i].ticksUntilChange(now));
        }
        return Math.max(1, ticks);
    }

    private void moveCredits(long ticks) {
        for (int i = 0; i < ports.length; i++) {
            ports[i].moveCredits(ticks);
        }
    }

    /** A frame that LEFT. */
    private static final class Departure {
        private final int frame;
        private final int port;
        private final long begin;
        private final long end;

        private Departure(int frame, int port, long begin, long end) {
            this.frame = frame;
            this.port = port;
            this.begin = begin;
            this.end = end;
        }
    }

    /** Where an address is, and its STREAMS by their ranks. */
    private static final class Address {
        private final Stream[] streams;
        private int port;
        private long since;

        private Address() {
            streams = new Stream[RANKS];
            for (int i = 0; i < RANKS; i++) {
                streams[i] = new Stream();
            }
        }

        private boolean isFixed() {
            return since == FIXED;
        }

        private int portAt(long now) {
            return isFixed() || now - since < TICKS_LEARNED ? port : 0;
        }
    }

    /** A STREAM's RATE, and how many of its frames were taken in the thousand ticks of the last one. */
    private static final class Stream {
        private long rate;
        private long thousand;
        private int taken;

        private Stream() {
            rate = NO_RATE;
        }

        private int takenAt(long now) {
            return thousand == now / TICKS_OF_RATE ? taken : 0;
        }

        private boolean takesOne(long now) {
            int before = takenAt(now);
            if (rate != NO_RATE && before >= rate) {
                return false;
            }
            thousand = now / TICKS_OF_RATE;
            taken = before + 1;
            return true;
        }
    }

    /** A port: its LINK, its OFFSET, its ranks, and the frame that it is sending (0: none). */
    private static final class Port {
        private final int number;
        private final PortRank[] ranks;
        private long speed;
        private long offset;
        private int waiting;
        private int sentFrame;
        private int sentRank;
        private long sendBegin;
        private long sendEnd;

        private Port(int number) {
            this.number = number;
            ranks = new PortRank[RANKS];
            for (int i = 0; i < RANKS; i++) {
                ranks[i] = new PortRank();
            }
        }

        private boolean isSending() {
            return sentFrame != 0;
        }

        private boolean queue(int frame, int rank, int length) {
            if (!ranks[rank].add(frame, length)) {
                return false;
            }
            waiting++;
            return true;
        }

        private int loseFrames() {
            int lost = waiting + (isSending() ? 1 : 0);
            for (int i = 0; i < RANKS; i++) {
                ranks[i].waiting = 0;
            }
            waiting = 0;
            sentFrame = 0;
            return lost;
        }

        private void beginNext(long now, long cycleLength) {
            if (speed <= 0 || cycleLength <= 0 || waiting == 0 || isSending()) {
                return;
            }
            long tick = (now + offset) % cycleLength;
            for (int i = RANKS - 1; i >= 0; i--) {
                PortRank rank = ranks[i];
                if (rank.waiting == 0) {
                    continue;
                }
                long time = (rank.firstBits() + speed - 1) / speed;
                if (rank.letsBegin(tick, time)) {
                    sentFrame = rank.removeFirst();
                    sentRank = i;
                    sendBegin = now;
                    sendEnd = now + time;
                    waiting--;
                    return;
                }
            }
        }

        // When a waiting frame may begin is for WINDOWS and CREDITS to say, so each tick must be looked at.
        private long ticksUntilChange(long now) {
            if (isSending()) {
                return sendEnd - now;
            }
            return waiting > 0 ? 1 : MOST_TICKS;
        }

        private void moveCredits(long ticks) {
            for (int i = 0; i < RANKS; i++) {
                PortRank rank = ranks[i];
                if (rank.isShaped()) {
                    rank.moveCredit(ticks, isSending() && sentRank == i ? speed : 0);
                }
            }
        }
    }

    /** A rank of a port: its QUEUE (a ring), its WINDOWS and its CREDIT. */
    private static final class PortRank {
        private final int[] queuedFrames;
        private final int[] queuedLengths;
        private int first;
        private int waiting;
        private final long[] windowFrom;
        private final long[] windowTo;
        private int windows;
        private long up;
        private long down;
        // The CREDIT times down: so it stays a whole number, and exact.
        private long creditParts;

        private PortRank() {
            queuedFrames = new int[QUEUE_ROOM];
            queuedLengths = new int[QUEUE_ROOM];
            windowFrom = new long[MOST_WINDOWS];
            windowTo = new long[MOST_WINDOWS];
        }

        private boolean add(int frame, int length) {
            if (waiting >= QUEUE_ROOM) {
                return false;
            }
            int last = (first + waiting) % QUEUE_ROOM;
            queuedFrames[last] = frame;
            queuedLengths[last] = length;
            waiting++;
            return true;
        }

        private int removeFirst() {
            int frame = queuedFrames[first];
            first = (first + 1) % QUEUE_ROOM;
            waiting--;
            return frame;
        }

        private int firstBits() {
            return BITS_OF_OCTET * (queuedLengths[first] + OCTETS_AROUND);
        }

        private boolean addWindow(long from, long to) {
            if (windows >= MOST_WINDOWS) {
                return false;
            }
            windowFrom[windows] = from;
            windowTo[windows] = to;
            windows++;
            return true;
        }

        private boolean isShaped() {
            return up > 0;
        }

        private void shape(long newUp, long newDown) {
            up = newUp;
            down = newDown;
            creditParts = 0;
        }

        private boolean letsBegin(long tick, long time) {
            return (!isShaped() || creditParts >= 0) && isOpenFor(tick, time);
        }

        // If time fits into any WINDOW that has the tick, it fits into the one that ends last.
        private boolean isOpenFor(long tick, long time) {
            for (int i = 0; i < windows; i++) {
                if (windowFrom[i] <= tick && tick < windowTo[i] && time <= windowTo[i] - tick) {
                    return true;
                }
            }
            return windows == 0;
        }

        private void moveCredit(long ticks, long sendingSpeed) {
            if (sendingSpeed > 0) {
                creditParts -= ticks * (sendingSpeed * down - up);
            } else if (waiting > 0) {
                creditParts += ticks * up;
            } else {
                creditParts = creditParts < 0 ? Math.min(0, creditParts + ticks * up) : 0;
            }
        }
    }
}
