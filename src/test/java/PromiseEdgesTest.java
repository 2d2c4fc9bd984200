/**
 * Each sentence of the document's thirteen promises that names an edge: at the edge and on both
 * sides of it. What a call leaves as it was when it is refused is RefusalsTest's.
 */
public final class PromiseEdgesTest {
    private static final int LEAST = Integer.MIN_VALUE;
    private static final int MOST = Integer.MAX_VALUE;

    public static void main(String[] args) {
        newObjectHasNoNets();
        newObjectHasNothingElse();
        netNumbers();
        noSuchNet();
        linkCountsWhatIsLost();
        linkComesUp();
        fatesAtATime();
        fatesTwoBitsEach();
        fatesCounted();
        feedAtATime();
        feedTheHighestFirst();
        feedAtMost();
        putCounts();
        putUsesThePayloadUp();
        putFromItself();
        passTicks();
        passCountsWhatIsDue();
        nextOnlyWhatIsDue();
        arrivalWhat();
        arrivalTakenLast();
        byteAtIndexes();
        byteAtValues();
        underWayCounts();
        fatedCounts();
        putsCounts();
        Checks.end();
    }

    private static void newObjectHasNoNets() {
        Checks.sentence("Promise 1: No nets");
        Bench x = new Bench();
        for (int net : new int[] {LEAST, -1, 0, 1, 23, 24, MOST}) {
            refusesNet(x, net);
        }
        Checks.due("the first net", 0, () -> x.net(100, 1));
    }

    private static void newObjectHasNothingElse() {
        Checks.sentence("Promise 1: time is 0 (and nothing was fed, put or taken)");
        Bench x = new Bench();
        Checks.due("under way", 0, x::underWay);
        Checks.due("next", false, x::next);
        Checks.due("due", 0, () -> x.pass(0));
        Checks.badState("taken", () -> x.arrival(0));
        Checks.badState("its bytes", () -> x.byteAt(0));
        Checks.due("the payload", 1, () -> x.feed(0, 1));
    }

    /** Every call that names a net refuses this one. */
    private static void refusesNet(Bench x, int net) {
        Checks.badArgument("link down " + net, () -> x.link(net, false));
        Checks.badArgument("link up " + net, () -> x.link(net, true));
        Checks.badArgument("fates " + net, () -> x.fates(net, 0, 1));
        Checks.badArgument("put " + net, () -> x.put(net, 0, 1, 1));
        Checks.badArgument("fated " + net, () -> x.fated(net));
        Checks.badArgument("puts " + net, () -> x.puts(net));
    }

    private static void acceptsNet(Bench x, int net) {
        Checks.due("link down " + net, 0, () -> x.link(net, false));
        Checks.due("link up " + net, 0, () -> x.link(net, true));
        Checks.due("fates " + net, 1, () -> x.fates(net, 1, 1));
        Checks.due("fated " + net, 1, () -> x.fated(net));
        Checks.due("put " + net, 0, () -> x.put(net, 0, 1, 1));
        Checks.due("puts " + net, 1, () -> x.puts(net));
    }

    private static void netNumbers() {
        Checks.sentence("Promise 2: A new net, which is up: its number");
        Bench x = new Bench();
        for (int i = 0; i < 24; i++) {
            Checks.badArgument("one that is refused takes no number", () -> x.net(99, 1));
            Checks.due("net " + i, i, () -> x.net(100, 1));
            int net = i;
            Checks.due("put on it", 0, () -> x.putEmpty(net, 1));
            Checks.due("which is up", i + 1, x::underWay);
        }
        Checks.badState("there are 24", () -> x.net(100, 1));
        Checks.badState("there are 24 still", () -> x.net(100, 1));
    }

    private static void noSuchNet() {
        Checks.sentence("Promises 3, 4, 6, 12, 13: there is no such net");
        for (int count : new int[] {1, 2, 23, 24}) {
            Bench x = new Bench();
            for (int i = 0; i < count; i++) {
                x.net(100, 1);
            }
            for (int wrong : new int[] {LEAST, -2, -1, count, count + 1, 64, MOST}) {
                refusesNet(x, wrong);
            }
            acceptsNet(x, 0);
            if (count > 1) {
                acceptsNet(x, count - 1);
            }
        }
    }

    private static void linkCountsWhatIsLost() {
        Checks.sentence("Promise 3: how many arrivals are lost");
        for (int count : new int[] {0, 1, 2, 3, 511, 512}) {
            Bench x = Bench.with(100, 5);
            x.net(100, 5);
            x.fill(0, count);
            Checks.due("the other net has none", 0, () -> x.link(1, false));
            Checks.due("all are under way", count, x::underWay);
            Checks.due("all are lost", count, () -> x.link(0, false));
            Checks.due("none is under way", 0, x::underWay);
            Checks.due("none is lost twice", 0, () -> x.link(0, false));
            Checks.due("nothing comes", 0, () -> x.pass(1000));
        }
        Bench x = Bench.with(100, 5);
        x.fill(0, 4);
        x.pass(5);
        x.next();
        Checks.due("what was taken is not lost", 3, () -> x.link(0, false));
        Checks.due("it is still the one that was taken last", 0, () -> x.arrival(3));
    }

    private static void linkComesUp() {
        Checks.sentence("Promise 3: A net goes down, or comes up");
        Bench x = Bench.with(100, 5);
        x.fill(0, 3);
        Checks.due("up, being up, loses none", 0, () -> x.link(0, true));
        Checks.due("all are under way", 3, x::underWay);
        x.link(0, false);
        Checks.due("up loses none", 0, () -> x.link(0, true));
        x.putEmpty(0, 9);
        Checks.due("what is put then is under way", 1, x::underWay);
        Checks.due("up once more", 0, () -> x.link(0, true));
        Checks.due("it comes", 1, () -> x.pass(5));
    }

    private static void fatesAtATime() {
        Checks.sentence("Promise 4: n is not 1 .. 32");
        Bench x = Bench.with(100, 1);
        for (int wrong : new int[] {LEAST, -32, -1, 0, 33, 34, 64, 256 + 1, MOST}) {
            Checks.badArgument("n = " + wrong, () -> x.fates(0, 0, wrong));
        }
        Checks.due("none was added", 0, () -> x.fated(0));
        Checks.due("1", 1, () -> x.fates(0, 0, 1));
        Checks.due("2 more", 3, () -> x.fates(0, 0, 2));
        Checks.due("31 more", 34, () -> x.fates(0, 0, 31));
        Bench y = Bench.with(100, 1);
        Checks.due("32", 32, () -> y.fates(0, 0, 32));
        Checks.due("32 more", 64, () -> y.fates(0, 0, 32));
    }

    private static void fatesTwoBitsEach() {
        Checks.sentence("Promise 4: two bits each, the first one lowest");
        int[] arrivals = {1, 0, 2, 1};
        int[] ticks = {1, 1, 3, 4};
        for (int place = 0; place < 32; place++) {
            for (int fate = 0; fate < 4; fate++) {
                // All others are lost, and what stands above the n fates is to be left alone.
                long lost = 0x5555555555555555L & ~(3L << 2 * place);
                long fates = lost | (long) fate << 2 * place;
                int n = place + 1;
                long above = n < 32 ? -1L << 2 * n : 0;
                String what = "fate " + fate + " at " + place;
                Bench x = Bench.with(100, 1);
                Checks.due(what, n, () -> x.fates(0, fates | above, n));
                for (int i = 0; i < place; i++) {
                    x.putEmpty(0, i);
                }
                Checks.due(what + ": those before are lost", 0, x::underWay);
                x.putEmpty(0, place);
                Checks.due(what + ": it is met", arrivals[fate], x::underWay);
                Checks.due(what + ": none is left", 0, () -> x.fated(0));
                int last = ticks[fate];
                int early = fate == 2 ? 1 : 0;
                Checks.due(what + ": a tick before its last", early, () -> x.pass(last - 1));
                Checks.due(what + ": at its last", arrivals[fate], () -> x.pass(1));
            }
        }
    }

    private static void fatesCounted() {
        Checks.sentence("Promise 4: it would have more than 64");
        for (int has = 32; has <= 64; has++) {
            Bench x = Bench.with(100, 1);
            x.fates(0, 0, 32);
            if (has > 32) {
                x.fates(0, 0, has - 32);
            }
            int room = 64 - has;
            if (room < 32) {
                Checks.badState(has + " and one too many", () -> x.fates(0, 0, room + 1));
                Checks.badState(has + " and 32", () -> x.fates(0, 0, 32));
            }
            if (room > 1) {
                Checks.due(has + " and one less", 63, () -> x.fates(0, 0, room - 1));
                Checks.due("and one", 64, () -> x.fates(0, 0, 1));
            } else if (room == 1) {
                Checks.due(has + " and as many as have room", 64, () -> x.fates(0, 0, room));
            }
            Checks.due("64", 64, () -> x.fated(0));
        }
        Bench y = Bench.with(100, 1);
        y.fates(0, 0, 32);
        Checks.due("32 and as many as have room", 64, () -> y.fates(0, 0, 32));
    }

    private static void feedAtATime() {
        Checks.sentence("Promise 5: n is not 1 .. 8");
        Bench x = Bench.with(100, 1);
        for (int wrong : new int[] {LEAST, -8, -1, 0, 9, 10, 256 + 1, MOST}) {
            Checks.badArgument("n = " + wrong, () -> x.feed(0, wrong));
        }
        Checks.due("1: none was fed before", 1, () -> x.feed(0, 1));
        Checks.due("2 more", 3, () -> x.feed(0, 2));
        Checks.due("7 more", 10, () -> x.feed(0, 7));
        Checks.due("8 more", 18, () -> x.feed(0, 8));
    }

    private static void feedTheHighestFirst() {
        Checks.sentence("Promise 5: the n lowest bytes of the long, the highest of these first");
        int[] bytes = {0x81, 0x23, 0x45, 0x67, 0x89, 0xAB, 0xCD, 0xEF};
        for (int n = 1; n <= 8; n++) {
            int count = n;
            Bench x = Bench.with(100, 1);
            Checks.due(n + " bytes", n, () -> x.feed(0x8123456789ABCDEFL, count));
            x.put(0, 0, 1, 1);
            x.pass(1);
            x.next();
            Checks.due(n + " arrive", n, () -> x.arrival(6));
            for (int i = 0; i < n; i++) {
                int at = i;
                Checks.due(n + " bytes, " + i, bytes[8 - n + i], () -> x.byteAt(at));
            }
        }
    }

    private static void feedAtMost() {
        Checks.sentence("Promise 5: they would be more than 1480");
        for (int n = 1; n <= 8; n++) {
            int count = n;
            Bench x = Bench.with(1500, 1);
            x.feedBytes(1, 1480 - n);
            if (n < 8) {
                Checks.badState("1481 by " + (n + 1), () -> x.feed(-1, count + 1));
            }
            Checks.badArgument("1481 by 9 is no such n", () -> x.feed(-1, 9));
            Checks.due("1480 by " + n, 1480, () -> x.feed(0x1011121314151617L, count));
            for (int more = 1; more <= 8; more++) {
                int wrong = more;
                Checks.badState("1480 and " + more, () -> x.feed(-1, wrong));
            }
            Checks.due("put", 0, () -> x.put(0, 0, 1, 1));
            x.pass(1);
            x.next();
            Checks.due("size", 1480, () -> x.arrival(6));
            Checks.due("the first", 1, () -> x.byteAt(0));
            Checks.due("the last but n", 1480 - n & 255, () -> x.byteAt(1479 - count));
            Checks.due("the first of the last n", 0x18 - n, () -> x.byteAt(1480 - count));
            Checks.due("the last", 0x17, () -> x.byteAt(1479));
            Checks.due("the next payload begins anew", 8, () -> x.feed(0, 8));
        }
        Bench y = Bench.with(1500, 1);
        y.feedBytes(0, 1473);
        Checks.badState("1473 and 8", () -> y.feed(0, 8));
        Checks.due("1473 and 6", 1479, () -> y.feed(0, 6));
        Checks.badState("1479 and 2", () -> y.feed(0, 2));
        Checks.due("1479 and 1", 1480, () -> y.feed(0, 1));
    }

    private static void putCounts() {
        Checks.sentence("Promise 6: how many pieces it was cut into, 0 if it was not");
        int[][] due = {{0, 0}, {1, 0}, {79, 0}, {80, 0}, {81, 2}, {82, 2}, {159, 2}, {160, 2},
            {161, 3}, {240, 3}, {241, 4}, {1439, 18}, {1440, 18}, {1441, 19}, {1480, 19}};
        for (int[] one : due) {
            for (boolean up : new boolean[] {true, false}) {
                Bench x = Bench.with(100, 1);
                x.link(0, up);
                x.feedBytes(0, one[0]);
                String what = one[0] + " bytes, up " + up;
                Checks.due(what, one[1], () -> x.put(0, 0, 1, 1));
                Checks.due(what + ": frames", Math.max(1, one[1]), () -> x.puts(0));
                Checks.due(what + ": arrivals", up ? Math.max(1, one[1]) : 0, () -> x.pass(1));
            }
        }
    }

    private static void putUsesThePayloadUp() {
        Checks.sentence("Promise 6: the payload that was fed (which is used up)");
        Bench x = Bench.with(100, 1);
        x.net(100, 1);
        x.feedBytes(1, 3);
        x.put(0, 0, 1, 1);
        x.put(0, 0, 1, 2);
        x.feedBytes(11, 2);
        x.link(1, false);
        x.put(1, 0, 1, 3);
        x.put(0, 0, 1, 4);
        x.feedBytes(21, 1);
        x.fates(0, 1, 1);
        x.put(0, 0, 1, 5);
        x.put(0, 0, 1, 6);
        Checks.due("due", 4, () -> x.pass(1));
        int[][] numberAndSize = {{1, 3}, {2, 0}, {4, 0}, {6, 0}};
        for (int[] one : numberAndSize) {
            Checks.due("next", true, x::next);
            Checks.due("number", one[0], () -> x.arrival(3));
            Checks.due("size of " + one[0], one[1], () -> x.arrival(6));
            Checks.due("whole of " + one[0], one[1], () -> x.arrival(5));
        }
    }

    private static void putFromItself() {
        Checks.sentence("Promise 6: goal not -1 .. 7, or from itself (the payload stays)");
        Bench x = Bench.with(100, 1);
        x.feed(0x0A0B, 2);
        for (int from = 0; from <= 7; from++) {
            int station = from;
            Checks.badArgument(from + " for itself", () -> x.put(0, station, station, 1));
        }
        Checks.due("the payload stays", 3, () -> x.feed(0x0C, 1));
        int frames = 0;
        for (int from = 0; from <= 7; from++) {
            for (int goal = -1; goal <= 7; goal++) {
                int station = from;
                int other = goal;
                if (goal != from) {
                    Checks.due(from + " for " + goal, 0, () -> x.put(0, station, other, 1));
                    frames++;
                }
            }
        }
        Checks.due("frames", frames, () -> x.puts(0));
        x.pass(1);
        x.next();
        Checks.due("the payload", 3, () -> x.arrival(6));
        Checks.due("its first byte", 0x0A, () -> x.byteAt(0));
        Checks.due("its last byte", 0x0C, () -> x.byteAt(2));
    }

    private static void passTicks() {
        Checks.sentence("Promise 7: n is not 0 .. 1000");
        Bench x = Bench.with(100, 1);
        x.putEmpty(0, 1);
        for (int wrong : new int[] {LEAST, -1000, -2, -1, 1001, 1002, 65536, MOST}) {
            Checks.badArgument("pass(" + wrong + ")", () -> x.pass(wrong));
        }
        Checks.due("no tick has gone by", 0, () -> x.pass(0));
        Checks.due("pass(1)", 1, () -> x.pass(1));
        Checks.due("pass(999)", 1, () -> x.pass(999));
        x.putEmpty(0, 2);
        Checks.due("pass(1000)", 2, () -> x.pass(1000));
    }

    private static void passCountsWhatIsDue() {
        Checks.sentence("Promise 7: how many arrivals are due then");
        for (int jump = 0; jump <= 5; jump++) {
            int ticks = jump;
            Bench x = Bench.with(100, 3);
            x.net(100, 4);
            x.putEmpty(0, 1);
            x.putEmpty(0, 2);
            x.putEmpty(1, 3);
            int due = jump < 3 ? 0 : jump < 4 ? 2 : 3;
            Checks.due("at " + jump, due, () -> x.pass(ticks));
            Checks.due("at " + jump + ", not only those that are new", due, () -> x.pass(0));
            boolean taken = x.next();
            Checks.due("at " + jump + ", one less", taken ? due - 1 : due, () -> x.pass(0));
            Checks.due("all that are left", taken ? 2 : 3, () -> x.pass(1000));
        }
    }

    private static void nextOnlyWhatIsDue() {
        Checks.sentence("Promise 8: Takes the first arrival that is due: whether there was one");
        Bench x = Bench.with(100, 2);
        Checks.due("none under way", false, x::next);
        x.putEmpty(0, 1);
        x.pass(1);
        x.putEmpty(0, 2);
        Checks.due("a tick before", false, x::next);
        Checks.due("still under way", 2, x::underWay);
        Checks.badState("none was taken", () -> x.arrival(3));
        x.pass(1);
        Checks.due("at its tick", true, x::next);
        Checks.due("the first", 1, () -> x.arrival(3));
        Checks.due("one is left", 1, x::underWay);
        Checks.due("the second a tick before", false, x::next);
        x.pass(2);
        Checks.due("a tick behind", true, x::next);
        Checks.due("the second", 2, () -> x.arrival(3));
        Checks.due("each is taken once", false, x::next);
        Checks.due("none is left", 0, x::underWay);
    }

    private static void arrivalWhat() {
        Checks.sentence("Promise 9: what is none of these; none was taken");
        Bench x = Bench.with(100, 1);
        x.net(108, 1);
        x.feedBytes(0, 91);
        x.put(1, 2, 3, 44);
        x.pass(1);
        int[] wrong = {LEAST, -2, -1, 7, 8, 256, MOST};
        for (int what = 0; what <= 6; what++) {
            int which = what;
            Checks.badState("none was taken: " + what, () -> x.arrival(which));
        }
        for (int what : wrong) {
            Checks.badArgument("none was taken: " + what, () -> x.arrival(what));
        }
        int[][] due = {{1, 2, 3, 44, 0, 91, 88}, {1, 2, 3, 44, 88, 91, 3}};
        for (int[] piece : due) {
            x.next();
            for (int what = 0; what <= 6; what++) {
                int which = what;
                Checks.due("arrival(" + what + ")", piece[what], () -> x.arrival(which));
            }
            for (int what : wrong) {
                Checks.badArgument("arrival(" + what + ")", () -> x.arrival(what));
            }
        }
    }

    private static void arrivalTakenLast() {
        Checks.sentence("Promise 9: Of the arrival that was taken last");
        Bench x = Bench.with(100, 1);
        x.feedBytes(70, 4);
        x.put(0, 5, 6, 1);
        x.pass(1);
        x.next();
        int[] due = {0, 5, 6, 1, 0, 4, 4};
        // None of these takes another one.
        x.next();
        x.fill(0, 200);
        x.link(0, false);
        x.feedBytes(0, 8);
        x.put(0, 0, 1, 2);
        x.link(0, true);
        x.net(100, 1);
        x.feedBytes(9, 5);
        x.put(1, 3, 4, 3);
        for (int what = 0; what <= 6; what++) {
            int which = what;
            Checks.due("arrival(" + what + ") stays", due[what], () -> x.arrival(which));
        }
        Checks.due("its bytes stay", 73, () -> x.byteAt(3));
        x.pass(1);
        Checks.due("passing does not take", 1, () -> x.arrival(3));
        Checks.due("taking does", true, x::next);
        int[] then = {1, 3, 4, 3, 0, 5, 5};
        for (int what = 0; what <= 6; what++) {
            int which = what;
            Checks.due("arrival(" + what + ") of the next", then[what], () -> x.arrival(which));
        }
        Checks.due("its bytes", 13, () -> x.byteAt(4));
    }

    private static void byteAtIndexes() {
        Checks.sentence("Promise 10: none was taken; there is no such byte");
        int[] always = {LEAST, -2, -1, 1480, 1481, 4096, MOST};
        for (int size : new int[] {0, 1, 2, 79, 80, 1479, 1480}) {
            Bench x = Bench.with(1500, 1);
            x.feedBytes(3, size);
            x.put(0, 0, 1, 1);
            x.feedBytes(99, 16);
            x.put(0, 0, 1, 2);
            x.pass(1);
            for (int i : new int[] {LEAST, -1, 0, 1, size, MOST}) {
                Checks.badState("none was taken: " + i, () -> x.byteAt(i));
            }
            x.next();
            String what = "of " + size + ": byte ";
            for (int i : always) {
                if (i < 0 || i >= size) {
                    Checks.badIndex(what + i, () -> x.byteAt(i));
                }
            }
            Checks.badIndex(what + size, () -> x.byteAt(size));
            Checks.badIndex(what + (size + 1), () -> x.byteAt(size + 1));
            for (int i : new int[] {0, 1, size - 2, size - 1}) {
                if (i >= 0 && i < size) {
                    Checks.due(what + i, 3 + i & 255, () -> x.byteAt(i));
                }
            }
        }
    }

    private static void byteAtValues() {
        Checks.sentence("Promise 10: Byte i of these, 0 .. 255");
        Bench x = Bench.with(1500, 1);
        x.feedBytes(0, 256);
        x.put(0, 0, 1, 1);
        x.pass(1);
        x.next();
        for (int i = 0; i < 256; i++) {
            int at = i;
            Checks.due("byte " + i, i, () -> x.byteAt(at));
        }
    }

    private static void underWayCounts() {
        Checks.sentence("Promise 11: How many arrivals are under way");
        int[] arrivals = {1, 0, 2, 1};
        Bench x = Bench.with(100, 1);
        x.fates(0, 0b11_10_01_00, 4);
        int under = 0;
        Checks.due("none", 0, x::underWay);
        for (int fate = 0; fate < 4; fate++) {
            x.putEmpty(0, fate);
            under += arrivals[fate];
            Checks.due("with fate " + fate, under, x::underWay);
        }
        x.pass(1000);
        for (int left = under; left >= 0; left--) {
            Checks.due("those that are left", left, x::underWay);
            Checks.due("next", left > 0, x::next);
        }
        Checks.due("none", 0, x::underWay);
    }

    private static void fatedCounts() {
        Checks.sentence("Promise 12: How many fates a net's schedule has");
        Bench x = Bench.with(100, 1);
        x.net(100, 1);
        Checks.due("none", 0, () -> x.fated(0));
        x.fates(0, 0b1110_0100, 4);
        x.fates(1, 0, 1);
        for (int left = 4; left > 0; left--) {
            Checks.due("left", left, () -> x.fated(0));
            x.putEmpty(0, left);
        }
        Checks.due("none again", 0, () -> x.fated(0));
        x.putEmpty(0, 5);
        Checks.due("none, not less", 0, () -> x.fated(0));
        Checks.due("the other net's", 1, () -> x.fated(1));
        Checks.due("added behind none", 2, () -> x.fates(0, 0, 2));
    }

    private static void putsCounts() {
        Checks.sentence("Promise 13: How many frames were put on a net");
        Bench x = Bench.with(100, 1);
        x.net(1500, 1);
        Checks.due("none", 0, () -> x.puts(0));
        x.feedBytes(0, 80);
        x.put(0, 0, 1, 1);
        Checks.due("uncut: one", 1, () -> x.puts(0));
        x.feedBytes(0, 81);
        x.put(0, 0, 1, 1);
        Checks.due("cut: one a piece", 3, () -> x.puts(0));
        x.feedBytes(0, 81);
        x.put(1, 0, 1, 1);
        Checks.due("uncut on the other net", 1, () -> x.puts(1));
        x.fates(0, 0b1110_0100, 4);
        for (int fate = 0; fate < 4; fate++) {
            int count = 4 + fate;
            x.putEmpty(0, 1);
            Checks.due("whatever its fate is, " + fate, count, () -> x.puts(0));
        }
        x.link(0, false);
        Checks.due("going down changes nothing", 7, () -> x.puts(0));
        x.putEmpty(0, 1);
        Checks.due("being down does not either", 8, () -> x.puts(0));
        x.link(0, true);
        x.putEmpty(0, 1);
        Checks.due("up again", 9, () -> x.puts(0));
    }
}
