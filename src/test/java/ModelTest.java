import java.util.ArrayDeque;
import java.util.ArrayList;
import java.util.Arrays;
import java.util.Comparator;
import java.util.List;
import java.util.Random;

/** Long runs of calls, always the same ones, against a slow and plain model of the document. */
public final class ModelTest {
    private static final int RUNS = 3000;
    private static final int CALLS = 512;

    // How often each call comes in a run: net, link, fates, feed, put, pass, next, arrival,
    // byteAt, underWay, fated, puts.
    private static final int[][] WEIGHTS = {
        {2, 1, 4, 10, 10, 6, 10, 6, 6, 3, 2, 2},
        {1, 0, 4, 0, 60, 0, 1, 1, 0, 2, 1, 1},
        {1, 1, 3, 60, 4, 4, 10, 5, 8, 2, 1, 1},
        {3, 4, 6, 6, 30, 12, 14, 6, 4, 3, 2, 2},
        {20, 5, 20, 5, 5, 5, 5, 5, 5, 2, 8, 8},
        {1, 0, 3, 150, 1, 2, 4, 2, 4, 1, 1, 1},
    };

    private record Arrival(int due, int put, int net, int station, int goal, int number,
            int from, int whole, byte[] bytes) {
    }

    private static final class Net {
        int largest;
        int delay;
        boolean up = true;
        int puts;
        final ArrayDeque<Integer> schedule = new ArrayDeque<>();
    }

    private static final class Model {
        final List<Net> nets = new ArrayList<>();
        final List<Arrival> arrivals = new ArrayList<>();
        byte[] payload = new byte[0];
        int time;
        int putCount;
        int mostPieces;
        Arrival taken;

        static void argument(boolean fine) {
            if (!fine) {
                throw new IllegalArgumentException();
            }
        }

        static void state(boolean fine) {
            if (!fine) {
                throw new IllegalStateException();
            }
        }

        Net at(int net) {
            argument(net >= 0 && net < nets.size());
            return nets.get(net);
        }

        int net(int largest, int delay) {
            argument(largest >= 100 && largest <= 1500 && delay >= 1 && delay <= 50);
            state(nets.size() < 24);
            Net made = new Net();
            made.largest = largest;
            made.delay = delay;
            nets.add(made);
            return nets.size() - 1;
        }

        int link(int net, boolean up) {
            at(net).up = up;
            int before = arrivals.size();
            if (!up) {
                arrivals.removeIf(a -> a.net == net);
            }
            return before - arrivals.size();
        }

        int fates(int net, long fates, int n) {
            Net to = at(net);
            argument(n >= 1 && n <= 32);
            state(to.schedule.size() + n <= 64);
            long left = fates;
            for (int i = 0; i < n; i++) {
                to.schedule.add((int) Math.floorMod(left, 4L));
                left = Math.floorDiv(left, 4L);
            }
            return to.schedule.size();
        }

        int feed(long bytes, int n) {
            argument(n >= 1 && n <= 8);
            state(payload.length + n <= 1480);
            int before = payload.length;
            payload = Arrays.copyOf(payload, before + n);
            long left = bytes;
            for (int i = n - 1; i >= 0; i--) {
                payload[before + i] = (byte) left;
                left >>= 8;
            }
            return payload.length;
        }

        int put(int net, int from, int goal, int number) {
            Net onto = at(net);
            argument(from >= 0 && from <= 7 && goal >= -1 && goal <= 7 && goal != from);
            List<byte[]> pieces = new ArrayList<>();
            boolean cut = payload.length + 20 > onto.largest;
            int most = cut ? (onto.largest - 20) / 8 * 8 : 1480;
            int begin = 0;
            do {
                int end = Math.min(payload.length, begin + most);
                pieces.add(Arrays.copyOfRange(payload, begin, end));
                begin = end;
            } while (begin < payload.length);
            int at = 0;
            for (byte[] piece : pieces) {
                frame(onto, new Arrival(0, 0, net, from, goal, number, at, payload.length, piece));
                at += piece.length;
            }
            payload = new byte[0];
            mostPieces = Math.max(mostPieces, pieces.size());
            return cut ? pieces.size() : 0;
        }

        void frame(Net onto, Arrival a) {
            onto.puts++;
            putCount++;
            if (!onto.up) {
                return;
            }
            int fate = onto.schedule.isEmpty() ? 0 : onto.schedule.remove();
            int[][] times = {{1}, {}, {1, 3}, {4}};
            if (arrivals.size() + times[fate].length > 512) {
                return;
            }
            for (int factor : times[fate]) {
                arrivals.add(new Arrival(time + factor * onto.delay, putCount, a.net, a.station,
                        a.goal, a.number, a.from, a.whole, a.bytes));
            }
        }

        int pass(int n) {
            argument(n >= 0 && n <= 1000);
            state(time + n <= 1000000);
            time += n;
            return (int) arrivals.stream().filter(a -> a.due <= time).count();
        }

        boolean next() {
            Arrival first = arrivals.stream().filter(a -> a.due <= time)
                    .min(Comparator.comparingInt(Arrival::due).thenComparingInt(Arrival::put))
                    .orElse(null);
            if (first == null) {
                return false;
            }
            arrivals.removeIf(a -> a == first);
            taken = first;
            return true;
        }

        int arrival(int what) {
            argument(what >= 0 && what <= 6);
            state(taken != null);
            int[] all = {taken.net, taken.station, taken.goal, taken.number, taken.from,
                taken.whole, taken.bytes.length};
            return all[what];
        }

        int byteAt(int i) {
            state(taken != null);
            if (i < 0 || i >= taken.bytes.length) {
                throw new IndexOutOfBoundsException();
            }
            return Byte.toUnsignedInt(taken.bytes[i]);
        }
    }

    private final Random random;
    private final WireBench bench = new WireBench();
    private final Model model = new Model();
    private final StringBuilder calls = new StringBuilder();
    private final boolean manyCopies;
    private int mostUnderWay;

    private ModelTest(int seed) {
        random = new Random(seed);
        manyCopies = random.nextBoolean();
    }

    public static void main(String[] args) {
        int mostUnderWay = 0;
        int mostPieces = 0;
        for (int run = 0; run < RUNS; run++) {
            ModelTest test = new ModelTest(run);
            if (!test.run(WEIGHTS[run % WEIGHTS.length])) {
                System.out.println("run " + run + ": " + test.calls);
                break;
            }
            mostUnderWay = Math.max(mostUnderWay, test.mostUnderWay);
            mostPieces = Math.max(mostPieces, test.model.mostPieces);
        }
        // The runs are worth something only if they come to the document's limits.
        Checks.same("most under way", "512", String.valueOf(mostUnderWay));
        Checks.same("most pieces are many", "true", String.valueOf(mostPieces >= 15));
        Checks.end();
    }

    private boolean run(int[] weights) {
        int sum = Arrays.stream(weights).sum();
        for (int i = 0; i < CALLS; i++) {
            int left = random.nextInt(sum);
            int kind = 0;
            while (left >= weights[kind]) {
                left -= weights[kind];
                kind++;
            }
            if (!call(i == 0 ? 0 : kind)) {
                return false;
            }
            mostUnderWay = Math.max(mostUnderWay, model.arrivals.size());
        }
        return true;
    }

    private int oneOf(int... some) {
        return some[random.nextInt(some.length)];
    }

    /** Mostly first .. last, now and then beside it. */
    private int about(int first, int last) {
        return random.nextInt(25) > 0 ? first + random.nextInt(last - first + 1)
                : oneOf(first - 1, last + 1, Integer.MIN_VALUE, Integer.MAX_VALUE, first, last);
    }

    private int someNet() {
        return about(0, Math.max(0, model.nets.size() - 1));
    }

    private boolean both(String call, Checks.Call modelled, Checks.Call benched) {
        calls.append(' ').append(call);
        return Checks.same(call, Checks.told(modelled), Checks.told(benched));
    }

    private boolean call(int kind) {
        int a = someNet();
        boolean copies = manyCopies && random.nextInt(4) > 0;
        long bits = copies ? 0xAAAAAAAAAAAAAAAAL : random.nextLong();
        switch (kind) {
            case 0: {
                int largest = random.nextBoolean() ? about(100, 130) : about(100, 1500);
                int delay = random.nextBoolean() ? about(1, 4) : about(1, 50);
                return both("net(" + largest + ", " + delay + ")",
                        () -> model.net(largest, delay), () -> bench.net(largest, delay));
            }
            case 1: {
                boolean up = random.nextInt(3) > 0;
                return both("link(" + a + ", " + up + ")",
                        () -> model.link(a, up), () -> bench.link(a, up));
            }
            case 2: {
                int n = about(1, 32);
                return both("fates(" + a + ", " + bits + "L, " + n + ")",
                        () -> model.fates(a, bits, n), () -> bench.fates(a, bits, n));
            }
            case 3: {
                int n = random.nextInt(3) > 0 ? 8 : about(1, 8);
                return both("feed(" + bits + "L, " + n + ")",
                        () -> model.feed(bits, n), () -> bench.feed(bits, n));
            }
            case 4:
                return callPut(a);
            case 5: {
                int n = random.nextInt(4) > 0 ? about(0, 6) : about(0, 1000);
                return both("pass(" + n + ")", () -> model.pass(n), () -> bench.pass(n));
            }
            case 6:
                return both("next()", model::next, bench::next);
            case 7: {
                int what = about(0, 6);
                return both("arrival(" + what + ")",
                        () -> model.arrival(what), () -> bench.arrival(what));
            }
            case 8: {
                int size = model.taken == null ? 1 : Math.max(1, model.taken.bytes.length);
                int i = about(0, size - 1);
                return both("byteAt(" + i + ")", () -> model.byteAt(i), () -> bench.byteAt(i));
            }
            case 9:
                return both("underWay()", () -> model.arrivals.size(), bench::underWay);
            case 10:
                return both("fated(" + a + ")",
                        () -> model.at(a).schedule.size(), () -> bench.fated(a));
            default:
                return both("puts(" + a + ")", () -> model.at(a).puts, () -> bench.puts(a));
        }
    }

    private boolean callPut(int net) {
        int from = about(0, 7);
        int goal = about(-1, 7);
        int number = random.nextInt();
        return both("put(" + net + ", " + from + ", " + goal + ", " + number + ")",
                () -> model.put(net, from, goal, number), () -> bench.put(net, from, goal, number));
    }
}
