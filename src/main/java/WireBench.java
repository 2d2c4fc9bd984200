/**
 * Nets on which frames are under way, each with a schedule that may lose a frame, copy it or let
 * it be overtaken. The document's numbered promises say what each call answers.
 */
public final class WireBench {
    /** There is none; as a goal: all. */
    public static final int NONE = -1;

    private static final int MOST_NETS = 24;
    private static final int SMALLEST_LARGEST = 100;
    private static final int LARGEST_LARGEST = 1500;
    private static final int LONGEST_DELAY = 50;
    private static final int MOST_STATIONS = 8;

    private static final int HEAD = 20;
    private static final int MOST_PAYLOAD = 1480;
    private static final int MOST_BYTES_A_FEED = 8;

    // A power of two, so that a place in a net's ring of fates is found with a mask.
    private static final int MOST_FATES = 64;
    private static final int MOST_FATES_A_CALL = 32;
    private static final int IN_TIME = 0;
    private static final int LOST = 1;
    private static final int COPIED = 2;
    private static final int LATE = 3;

    private static final int MOST_ARRIVALS = 512;
    private static final int LONGEST_PASS = 1000;
    private static final int LAST_TICK = 1000000;

    // An object is used for 512 calls, and a call feeds 8 bytes at the most: within these calls
    // no byte of the ring is written twice, so that arrivals need no bytes of their own.
    private static final int RING = 4096;

    private final Net[] nets = new Net[MOST_NETS];
    private int netCount = 0;
    private int time = 0;

    // The first arrivalCount are under way, in the order in which they are taken; the others
    // are free to be used again.
    private final Arrival[] arrivals = new Arrival[MOST_ARRIVALS];
    private int arrivalCount = 0;
    private Arrival taken = new Arrival();
    private boolean anyTaken = false;

    // What the arrivals of the frame that is being put have in common.
    private final Arrival draft = new Arrival();

    private final byte[] ring = new byte[RING];
    private int payloadStart = 0;
    private int payloadSize = 0;

    public WireBench() {
        for (int i = 0; i < MOST_NETS; i++) {
            nets[i] = new Net();
        }
        for (int i = 0; i < MOST_ARRIVALS; i++) {
            arrivals[i] = new Arrival();
        }
    }

    public int net(int largest, int delay)
            throws IllegalArgumentException, IllegalStateException {
        if (largest < SMALLEST_LARGEST || largest > LARGEST_LARGEST) {
            throw new IllegalArgumentException("largest is not 100 .. 1500");
        }
        if (delay < 1 || delay > LONGEST_DELAY) {
            throw new IllegalArgumentException("delay is not 1 .. 50");
        }
        if (netCount >= MOST_NETS) {
            throw new IllegalStateException("there are 24 nets");
        }
        nets[netCount].open(largest, delay);
        netCount++;
        return netCount - 1;
    }

    public int link(int net, boolean up) throws IllegalArgumentException {
        netNumbered(net).up = up;
        return up ? 0 : loseArrivalsOf(net);
    }

    public int fates(int net, long fates, int n)
            throws IllegalArgumentException, IllegalStateException {
        Net scheduled = netNumbered(net);
        if (n < 1 || n > MOST_FATES_A_CALL) {
            throw new IllegalArgumentException("n is not 1 .. 32");
        }
        if (scheduled.fateCount + n > MOST_FATES) {
            throw new IllegalStateException("the schedule would have more than 64 fates");
        }
        for (int i = 0; i < n; i++) {
            scheduled.addFate((int) (fates >>> (2 * i)) & 3);
        }
        return scheduled.fateCount;
    }

    public int feed(long bytes, int n) throws IllegalArgumentException, IllegalStateException {
        if (n < 1 || n > MOST_BYTES_A_FEED) {
            throw new IllegalArgumentException("n is not 1 .. 8");
        }
        if (payloadSize + n > MOST_PAYLOAD) {
            throw new IllegalStateException("the payload would be more than 1480 bytes");
        }
        for (int i = n - 1; i >= 0; i--) {
            ring[ringPlace(payloadStart + payloadSize)] = (byte) (bytes >>> (8 * i));
            payloadSize++;
        }
        return payloadSize;
    }

    public int put(int net, int from, int goal, int number) throws IllegalArgumentException {
        Net onto = netNumbered(net);
        if (!isStation(from)) {
            throw new IllegalArgumentException("from is not 0 .. 7");
        }
        if (goal != NONE && !isStation(goal)) {
            throw new IllegalArgumentException("goal is not -1 .. 7");
        }
        if (goal == from) {
            throw new IllegalArgumentException("goal is from itself");
        }
        draft.net = net;
        draft.station = from;
        draft.goal = goal;
        draft.number = number;
        draft.whole = payloadSize;
        int pieces = sendPayload(onto);
        payloadStart = ringPlace(payloadStart + payloadSize);
        payloadSize = 0;
        return pieces;
    }

    public int pass(int n) throws IllegalArgumentException, IllegalStateException {
        if (n < 0 || n > LONGEST_PASS) {
            throw new IllegalArgumentException("n is not 0 .. 1000");
        }
        if (time + n > LAST_TICK) {
            throw new IllegalStateException("the time would be more than 1000000");
        }
        time += n;
        return countDue();
    }

    public boolean next() {
        if (arrivalCount < 1 || arrivals[0].due > time) {
            return false;
        }
        Arrival first = arrivals[0];
        arrivalCount--;
        for (int i = 0; i < arrivalCount; i++) {
            arrivals[i] = arrivals[i + 1];
        }
        // The one that was taken before is free now: it fills the place that has come free.
        arrivals[arrivalCount] = taken;
        taken = first;
        anyTaken = true;
        return true;
    }

    public int arrival(int what) throws IllegalArgumentException, IllegalStateException {
        if (what < 0 || what > 6) {
            throw new IllegalArgumentException("what is not 0 .. 6");
        }
        if (!anyTaken) {
            throw new IllegalStateException("no arrival was taken");
        }
        switch (what) {
            case 0: return taken.net;
            case 1: return taken.station;
            case 2: return taken.goal;
            case 3: return taken.number;
            case 4: return taken.from;
            case 5: return taken.whole;
            default: return taken.size;
        }
    }

    public int byteAt(int i) throws IllegalStateException, IndexOutOfBoundsException {
        if (!anyTaken) {
            throw new IllegalStateException("no arrival was taken");
        }
        if (i < 0 || i >= taken.size) {
            throw new IndexOutOfBoundsException("there is no such byte");
        }
        return ring[ringPlace(taken.start + i)] & 255;
    }

    public int underWay() {
        return arrivalCount;
    }

    public int fated(int net) throws IllegalArgumentException {
        return netNumbered(net).fateCount;
    }

    public int puts(int net) throws IllegalArgumentException {
        return netNumbered(net).frameCount;
    }

    private Net netNumbered(int net) {
        if (net < 0 || net >= netCount) {
            throw new IllegalArgumentException("there is no such net");
        }
        return nets[net];
    }

    private static boolean isStation(int station) {
        return station >= 0 && station < MOST_STATIONS;
    }

    private static int ringPlace(int place) {
        return place & (RING - 1);
    }

    private int sendPayload(Net onto) {
        int whole = payloadSize;
        if (whole + HEAD <= onto.largest) {
            sendPiece(onto, 0, whole);
            return 0;
        }
        int size = onto.pieceSize();
        int pieces = countPieces(whole, size);
        for (int i = 0; i < pieces; i++) {
            int from = i * size;
            sendPiece(onto, from, Math.min(size, whole - from));
        }
        return pieces;
    }

    private static int countPieces(int whole, int size) {
        return size < 1 ? 0 : (whole + size - 1) / size;
    }

    private void sendPiece(Net onto, int from, int size) {
        onto.frameCount++;
        if (!onto.up) {
            return;
        }
        draft.from = from;
        draft.size = size;
        draft.start = ringPlace(payloadStart + from);
        meetFate(onto.takeFate(), onto.delay);
    }

    private void meetFate(int fate, int delay) {
        switch (fate) {
            case LOST:
                break;
            case COPIED:
                // Without room for both, neither is under way.
                if (arrivalCount + 2 <= MOST_ARRIVALS) {
                    arriveBehind(delay);
                    arriveBehind(3 * delay);
                }
                break;
            case LATE:
                arriveBehind(4 * delay);
                break;
            default:
                arriveBehind(delay);
                break;
        }
    }

    private void arriveBehind(int ticks) {
        if (arrivalCount >= MOST_ARRIVALS) {
            return;
        }
        Arrival added = arrivals[arrivalCount];
        added.copyFrom(draft);
        added.due = time + ticks;
        // Behind those of the same time: all of them were put earlier.
        int place = arrivalCount;
        while (place > 0 && arrivals[place - 1].due > added.due) {
            arrivals[place] = arrivals[place - 1];
            place--;
        }
        arrivals[place] = added;
        arrivalCount++;
    }

    private int loseArrivalsOf(int net) {
        int kept = 0;
        for (int i = 0; i < arrivalCount; i++) {
            Arrival seen = arrivals[i];
            if (seen.net != net) {
                // Swapped, not overwritten: the lost ones are used again.
                arrivals[i] = arrivals[kept];
                arrivals[kept] = seen;
                kept++;
            }
        }
        int lost = arrivalCount - kept;
        arrivalCount = kept;
        return lost;
    }

    private int countDue() {
        int count = 0;
        while (count < arrivalCount && arrivals[count].due <= time) {
            count++;
        }
        return count;
    }

    private static final class Net {
        private int largest = 0;
        private int delay = 0;
        private boolean up = false;
        private int frameCount = 0;

        // A ring: the first fate lies at firstFate, which stays below MOST_FATES.
        private final byte[] schedule = new byte[MOST_FATES];
        private int firstFate = 0;
        private int fateCount = 0;

        private void open(int newLargest, int newDelay) {
            largest = newLargest;
            delay = newDelay;
            up = true;
        }

        private int pieceSize() {
            return (largest - HEAD) & ~7;
        }

        private void addFate(int fate) {
            schedule[(firstFate + fateCount) & (MOST_FATES - 1)] = (byte) fate;
            fateCount++;
        }

        private int takeFate() {
            if (fateCount < 1) {
                return IN_TIME;
            }
            int fate = schedule[firstFate];
            firstFate = (firstFate + 1) & (MOST_FATES - 1);
            fateCount--;
            return fate;
        }
    }

    private static final class Arrival {
        private int due = 0;
        private int net = 0;
        private int station = 0;
        private int goal = 0;
        private int number = 0;
        private int from = 0;
        private int whole = 0;
        private int size = 0;
        // Where its bytes begin in the ring.
        private int start = 0;

        /** All but when it is due: the copies of a frame differ in that. */
        private void copyFrom(Arrival other) {
            net = other.net;
            station = other.station;
            goal = other.goal;
            number = other.number;
            from = other.from;
            whole = other.whole;
            size = other.size;
            start = other.start;
        }
    }
}
