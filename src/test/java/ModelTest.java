import java.util.ArrayList;
import java.util.List;
import java.util.Random;

/** Long runs of drawn calls: the class and the model answer alike, and nothing but what the document names is thrown. */
public final class ModelTest {
    private static final int RUNS = 1000;
    private static final int CALLS = 512;
    /** The last calls of a run ask for what LEFT. */
    private static final int LAST_CALLS = 120;
    private static final long THREW = Long.MIN_VALUE;
    private static final int[] ODD_INTS = {
        Integer.MIN_VALUE, Integer.MAX_VALUE, -9, -2, -1, 0, 1, 7, 8, 16, 17, 63, 100, 101, 1000, 1001, 1523, 8007, 8008
    };
    private static final long[] ODD_LONGS = {
        Long.MIN_VALUE, Long.MAX_VALUE, Integer.MIN_VALUE, 1L << 32, -2, -1, 0, 1, 99, 1000, 1001, 2000, 2001,
        9999, 10000, 10001, 999999, 1000000, 1000001, 10000000, 10000001
    };

    private final Random random;
    private final EthernetGates real;
    private final Model model;
    private final int ports;
    private final boolean wild;
    private final List<String> calls = new ArrayList<>();
    private int made;

    private ModelTest(long seed) {
        random = new Random(seed);
        ports = seed % 3 == 0 ? random.nextInt(20) - 1 : 2 + random.nextInt(3);
        wild = seed % 5 == 0;
        real = new EthernetGates(ports);
        model = new Model(ports);
        calls.add("new " + ports);
    }

    public static void main(String[] args) {
        for (long seed = 0; seed < RUNS; seed++) {
            ModelTest test = new ModelTest(seed);
            if (!test.agrees()) {
                System.out.println("seed " + seed + ":");
                for (String call : test.calls) {
                    System.out.println("  " + call);
                }
                System.exit(1);
            }
        }
    }

    private boolean agrees() {
        for (int port = 1; port <= 16 && !wild; port++) {
            if (!call(0, port, 1 + random.nextInt(300), 0, 0)) return false;
        }
        while (made < CALLS - LAST_CALLS) {
            if (!drawnCall()) return false;
        }
        int count = model.left(-1, 0);
        while (made < CALLS) {
            if (!call(6, random.nextInt(count + 3) - 1, random.nextInt(5), 0, 0)) return false;
        }
        return true;
    }

    private boolean drawnCall() {
        if (wild && random.nextInt(3) == 0) {
            return call(random.nextInt(13), oddInt(), oddLong(), oddLong(), oddLong());
        }
        int port = random.nextInt(40) == 0 ? oddInt() : 1 + random.nextInt(4);
        int rank = random.nextInt(40) == 0 ? oddInt() : random.nextInt(8);
        int address = random.nextInt(40) == 0 ? oddInt() : 1 + random.nextInt(4);
        long up = random.nextInt(6) == 0 ? 0 : random.nextInt(3000);
        switch (random.nextInt(60)) {
            case 0: return call(0, port, random.nextInt(3) == 0 ? 0 : random.nextInt(300), 0, 0);
            case 1: return call(0, port, 1 + random.nextInt(700), 0, 0);
            case 2: case 3: return call(1, port, rank, random.nextInt(60), random.nextInt(200));
            case 4: return call(2, drawnCycle(), 0, 0, 0);
            case 5: case 6: return call(6, random.nextInt(20) - 2, random.nextInt(6) - 1, 0, 0);
            case 7: case 8: case 9: return call(7, address, port, drawnTime(), 0);
            case 10: case 11: case 12: return call(8, port, rank, up, 1 + random.nextInt(20));
            case 13: case 14: return call(9, address * 8 + rank, random.nextInt(8) - 2, 0, 0);
            case 15: case 16: return call(10, port, random.nextInt(400) - 2, 0, 0);
            case 17: return call(11, random.nextInt(6) - 1, 0, 0, 0);
            case 18: case 19: return call(12, random.nextInt(3), random.nextInt(6) - 1, 0, 0);
            case 20: return call(5, random.nextInt(2001), 0, 0, 0);
            case 21: case 22: case 23: case 24: case 25: case 26: case 27:
                return call(5, random.nextInt(60), 0, 0, 0);
            default: return call(4, port, address, rank, drawnLength());
        }
    }

    private int oddInt() {
        return ODD_INTS[random.nextInt(ODD_INTS.length)];
    }

    private long oddLong() {
        return random.nextBoolean() ? ODD_LONGS[random.nextInt(ODD_LONGS.length)] : random.nextInt(200);
    }

    private long drawnCycle() {
        return random.nextInt(4) == 0 ? random.nextInt(3) - 1 : 50 + random.nextInt(250);
    }

    private long drawnTime() {
        return random.nextInt(5) == 0 ? -1 : random.nextInt(3) == 0 ? 0 : random.nextInt(6000);
    }

    private int drawnLength() {
        return random.nextInt(3) == 0 ? 60 + random.nextInt(1470) : 64 + random.nextInt(30);
    }

    private boolean call(int which, long a, long b, long c, long d) {
        made++;
        long got = answerOfReal(which, a, b, c, d);
        long want = answerOfModel(which, a, b, c, d);
        calls.add(which + "(" + a + ", " + b + ", " + c + ", " + d + ") answered " + got + ", due is " + want);
        return got == want;
    }

    private long answerOfReal(int which, long a, long b, long c, long d) {
        switch (which) {
            case 0: return real.link((int) a, b);
            case 1: return real.gate((int) a, (int) b, c, d);
            case 2: case 3:
                try {
                    return real.cycle(a);
                } catch (ArithmeticException e) {
                    return THREW;
                }
            case 4: return real.frame((int) a, (int) b, (int) c, (int) d);
            case 5: return real.run(a);
            case 6: return real.left((int) a, (int) b);
            case 7: return real.learn((int) a, (int) b, c);
            case 8: return real.credit((int) a, (int) b, c, d);
            case 9: return real.filter((int) a, b);
            case 10: return real.clock((int) a, b);
            case 11: return real.dropped((int) a);
            default: return real.service((int) a, (int) b);
        }
    }

    private long answerOfModel(int which, long a, long b, long c, long d) {
        switch (which) {
            case 0: return model.link((int) a, b);
            case 1: return model.gate((int) a, (int) b, c, d);
            case 2: case 3:
                try {
                    return model.cycle(a);
                } catch (ArithmeticException e) {
                    return THREW;
                }
            case 4: return model.frame((int) a, (int) b, (int) c, (int) d);
            case 5: return model.run(a);
            case 6: return model.left((int) a, (int) b);
            case 7: return model.learn((int) a, (int) b, c);
            case 8: return model.credit((int) a, (int) b, c, d);
            case 9: return model.filter((int) a, b);
            case 10: return model.clock((int) a, b);
            case 11: return model.dropped((int) a);
            default: return model.service((int) a, (int) b);
        }
    }
}
