import java.math.BigInteger;
import java.util.ArrayDeque;
import java.util.ArrayList;
import java.util.HashMap;
import java.util.List;
import java.util.Map;

/** The document's words once more, tick by tick and in the plainest way, to compare the class with. */
final class Model {
    private final int ports;
    private final long[] speed = new long[17];
    private final long[] offset = new long[17];
    private final Sending[] sending = new Sending[17];
    private final Map<Integer, ArrayDeque<int[]>> queues = new HashMap<>();
    private final Map<Integer, List<long[]>> windows = new HashMap<>();
    private final Map<Integer, Credit> credits = new HashMap<>();
    private final Map<Integer, long[]> places = new HashMap<>();
    private final Map<Integer, Long> rates = new HashMap<>();
    private final Map<String, Integer> taken = new HashMap<>();
    private final Map<Integer, long[]> services = new HashMap<>();
    private final List<long[]> gone = new ArrayList<>();
    private final int[] drops = new int[4];
    private long now;
    private long cycle = 1000;
    private int frames;

    private record Sending(int frame, int rank, long begin, long end) { }

    private static final class Credit {
        private final BigInteger up;
        private final BigInteger down;
        private BigInteger parts = BigInteger.ZERO;

        private Credit(long up, long down) {
            this.up = BigInteger.valueOf(up);
            this.down = BigInteger.valueOf(down);
        }
    }

    Model(int ports) {
        this.ports = ports < 1 || ports > 16 ? 4 : ports;
    }

    private boolean noPort(int port) {
        return port < 1 || port > ports;
    }

    private static boolean in(long value, long least, long most) {
        return least <= value && value <= most;
    }

    private ArrayDeque<int[]> queueOf(int port, int rank) {
        return queues.computeIfAbsent(port * 8 + rank, key -> new ArrayDeque<>());
    }

    private List<long[]> windowsOf(int port, int rank) {
        return windows.computeIfAbsent(port * 8 + rank, key -> new ArrayList<>());
    }

    int link(int port, long perMicro) {
        if (noPort(port)) return -1;
        if (!in(perMicro, 0, 10000)) return -2;
        if (sending[port] != null && perMicro > 0 && perMicro != speed[port]) return -3;
        speed[port] = perMicro;
        int lost = 0;
        if (perMicro == 0) {
            for (int rank = 0; rank < 8; rank++) {
                lost += queueOf(port, rank).size();
                queueOf(port, rank).clear();
            }
            lost += sending[port] == null ? 0 : 1;
            sending[port] = null;
            drops[3] += lost;
        }
        return lost;
    }

    int gate(int port, int rank, long from, long to) {
        if (noPort(port) || !in(rank, 0, 7)) return -1;
        if (!(0 <= from && from < to && to <= cycle)) return -2;
        List<long[]> list = windowsOf(port, rank);
        if (list.size() == 8) return -4;
        list.add(new long[] {from, to});
        return list.size();
    }

    int cycle(long micros) {
        if (!in(micros, 0, 1000000)) return -2;
        boolean any = false;
        for (List<long[]> list : windows.values()) {
            for (long[] window : list) {
                any = true;
                if (micros < window[1]) return -2;
            }
        }
        if (micros == 0 && !any) throw new ArithmeticException();
        cycle = micros;
        return 1;
    }

    private int placeOf(int address) {
        long[] place = places.get(address);
        if (place == null) return 0;
        return place[1] == -1 || now < place[1] + 3000 ? (int) place[0] : 0;
    }

    private int takenOf(int stream) {
        return taken.getOrDefault(stream + " " + now / 1000, 0);
    }

    int frame(int port, int to, int rank, int length) {
        if (noPort(port)) return -1;
        if (!in(to, 1, 1000) || !in(rank, 0, 7) || !in(length, 64, 1522)) return -2;
        if (speed[port] == 0) return -3;
        if (frames == 5000) return -4;
        frames++;
        int stream = 8 * to + rank;
        if (rates.containsKey(stream) && takenOf(stream) >= rates.get(stream)) {
            drops[1]++;
            return 0;
        }
        taken.merge(stream + " " + now / 1000, 1, Integer::sum);
        List<Integer> outs = new ArrayList<>();
        int at = placeOf(to);
        for (int out = 1; out <= ports; out++) {
            if (out != port && speed[out] > 0 && (at == 0 || at == out)) outs.add(out);
        }
        if (outs.isEmpty()) drops[2]++;
        boolean queued = false;
        for (int out : outs) {
            if (queueOf(out, rank).size() == 16) {
                drops[0]++;
            } else {
                queueOf(out, rank).add(new int[] {frames, length});
                queued = true;
            }
        }
        return queued ? frames : 0;
    }

    int run(long micros) {
        if (!in(micros, 0, 2000)) return -2;
        int before = gone.size();
        for (long i = 0; i < micros; i++) {
            tick();
            now++;
        }
        return gone.size() - before;
    }

    private void tick() {
        for (int port = 1; port <= ports; port++) {
            Sending s = sending[port];
            if (s != null && s.end == now) {
                gone.add(new long[] {s.frame, port, s.begin, s.end});
                sending[port] = null;
            }
        }
        for (int port = 1; port <= ports; port++) {
            if (speed[port] > 0 && sending[port] == null) begin(port);
        }
        for (Map.Entry<Integer, Credit> entry : credits.entrySet()) {
            moveCredit(entry.getKey() / 8, entry.getKey() % 8, entry.getValue());
        }
    }

    private void begin(int port) {
        for (int rank = 7; rank >= 0; rank--) {
            int[] first = queueOf(port, rank).peek();
            if (first == null) continue;
            long bits = 8L * (first[1] + 20);
            long time = bits / speed[port] + (bits % speed[port] == 0 ? 0 : 1);
            Credit credit = credits.get(port * 8 + rank);
            if (credit != null && credit.parts.signum() < 0) continue;
            if (!open(port, rank, time)) continue;
            queueOf(port, rank).remove();
            sending[port] = new Sending(first[0], rank, now, now + time);
            return;
        }
    }

    private boolean open(int port, int rank, long time) {
        List<long[]> list = windowsOf(port, rank);
        if (list.isEmpty()) return true;
        long tick = (now + offset[port]) % cycle;
        long lastEnd = -1;
        for (long[] window : list) {
            if (window[0] <= tick && tick < window[1]) lastEnd = Math.max(lastEnd, window[1]);
        }
        return lastEnd >= 0 && time <= lastEnd - tick;
    }

    private void moveCredit(int port, int rank, Credit credit) {
        if (sending[port] != null && sending[port].rank == rank) {
            BigInteger fall = BigInteger.valueOf(speed[port]).multiply(credit.down).subtract(credit.up);
            credit.parts = credit.parts.subtract(fall);
        } else if (!queueOf(port, rank).isEmpty()) {
            credit.parts = credit.parts.add(credit.up);
        } else if (credit.parts.signum() < 0) {
            credit.parts = credit.parts.add(credit.up).min(BigInteger.ZERO);
        } else {
            credit.parts = BigInteger.ZERO;
        }
    }

    int left(int i, int what) {
        if (i == -1 && what == 0) return gone.size();
        if (i < 0 || i >= gone.size() || i >= 5000) return -1;
        return in(what, 0, 3) ? (int) gone.get(i)[what] : -2;
    }

    int learn(int address, int port, long t) {
        if (noPort(port)) return -1;
        if (!in(address, 1, 1000) || !in(t, -1, now)) return -2;
        if (t != -1 && places.containsKey(address) && places.get(address)[1] == -1) return -3;
        int before = placeOf(address);
        places.put(address, new long[] {port, t});
        return before;
    }

    int credit(int port, int rank, long up, long down) {
        if (noPort(port) || !in(rank, 0, 7)) return -1;
        if (!in(down, 1, 1000) || !in(up, 0, 10000 * down)) return -2;
        credits.remove(port * 8 + rank);
        if (up > 0) credits.put(port * 8 + rank, new Credit(up, down));
        return 1;
    }

    int filter(int stream, long perMillis) {
        if (!in(stream, 8, 8007)) return -1;
        if (perMillis < -1) return -2;
        rates.remove(stream);
        if (perMillis >= 0) rates.put(stream, perMillis);
        return takenOf(stream);
    }

    int clock(int port, long delay) {
        if (noPort(port)) return -1;
        if (!in(delay, 0, 1000000)) return -2;
        for (int i = 0; i < 100; i++) {
            offset[port] += Long.compare(delay, offset[port]);
        }
        return (int) offset[port];
    }

    int dropped(int what) {
        return in(what, 0, 3) ? drops[what] : -2;
    }

    int service(int offer, int find) {
        if (offer != 0) {
            if (noPort(find)) return -1;
            if (!in(offer, 1, 100)) return -2;
            services.put(offer, new long[] {find, now});
            return find;
        }
        if (!in(find, 1, 100)) return -2;
        long[] offered = services.get(find);
        return offered != null && now < offered[1] + 1000 ? (int) offered[0] : 0;
    }
}
