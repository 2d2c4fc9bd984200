/**
 * A WireBench whose calls are counted: the document promises nothing behind the 512th one, so a
 * test that makes more is itself at fault.
 */
final class Bench {
    private static final int PROMISED_CALLS = 512;

    private final WireBench bench = new WireBench();
    private final int mostCalls;
    private int calls = 0;

    Bench() {
        this(PROMISED_CALLS);
    }

    private Bench(int mostCalls) {
        this.mostCalls = mostCalls;
    }

    /** For the one edge that can't be reached in 512 calls: the last tick. */
    static Bench beyondItsPromise() {
        return new Bench(Integer.MAX_VALUE);
    }

    /** With one net. */
    static Bench with(int largest, int delay) {
        Bench made = new Bench();
        made.net(largest, delay);
        return made;
    }

    private WireBench counted() {
        calls++;
        if (calls > mostCalls) {
            throw new AssertionError("the test makes more than " + mostCalls + " calls");
        }
        return bench;
    }

    int callsLeft() {
        return mostCalls - calls;
    }

    int net(int largest, int delay) {
        return counted().net(largest, delay);
    }

    int link(int net, boolean up) {
        return counted().link(net, up);
    }

    int fates(int net, long fates, int n) {
        return counted().fates(net, fates, n);
    }

    int feed(long bytes, int n) {
        return counted().feed(bytes, n);
    }

    int put(int net, int from, int goal, int number) {
        return counted().put(net, from, goal, number);
    }

    int pass(int n) {
        return counted().pass(n);
    }

    boolean next() {
        return counted().next();
    }

    int arrival(int what) {
        return counted().arrival(what);
    }

    int byteAt(int i) {
        return counted().byteAt(i);
    }

    int underWay() {
        return counted().underWay();
    }

    int fated(int net) {
        return counted().fated(net);
    }

    int puts(int net) {
        return counted().puts(net);
    }

    /** An empty datagram from station 0 for station 1. */
    int putEmpty(int net, int number) {
        return put(net, 0, 1, number);
    }

    /** Feeds bytes that count up from 'first', wrapping behind 255. */
    void feedBytes(int first, int count) {
        int value = first;
        int left = count;
        while (left > 0) {
            int n = Math.min(8, left);
            long bytes = 0;
            for (int i = 0; i < n; i++) {
                bytes = bytes << 8 | (value++ & 255);
            }
            feed(bytes, n);
            left -= n;
        }
    }

    /** So many arrivals of empty datagrams under way on a net, by as few calls as it takes. */
    void fill(int net, int count) {
        int copied = count / 2;
        for (int i = 0; i < copied; i++) {
            if (i % 32 == 0) {
                fates(net, 0xAAAAAAAAAAAAAAAAL, Math.min(32, copied - i));
            }
            putEmpty(net, i);
        }
        if (count % 2 == 1) {
            putEmpty(net, copied);
        }
    }
}
