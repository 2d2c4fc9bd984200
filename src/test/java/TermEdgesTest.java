/**
 * Each sentence of the document's "Terms", and how often an object is used: where it names an
 * edge, at the edge and on both sides of it. That all memory is made at first is MemoryTest's,
 * and what is said of exceptions RefusalsTest's.
 */
public final class TermEdgesTest {
    private static final int LEAST = Integer.MIN_VALUE;
    private static final int MOST = Integer.MAX_VALUE;
    private static final int IN_TIME = 0;
    private static final int LOST = 1;
    private static final int COPIED = 2;
    private static final int LATE = 3;

    public static void main(String[] args) {
        fiveHundredAndTwelveCalls();
        timeAtFirst();
        timeAtMost();
        netsAtMost();
        largest();
        delay();
        stationsThatPut();
        stationsAsGoals();
        upAtFirst();
        anyNumber();
        payload();
        headOfTwentyBytes();
        piecesOfEightfoldSize();
        lastPieceIsNoLarger();
        fromAndWhole();
        notCut();
        piecesInTheirOrder();
        scheduleAtMost();
        scheduleWrapsAround();
        fateInTime();
        fateLost();
        fateCopied();
        fateLate();
        withoutFates();
        down();
        arrivalsAtMost();
        dueOnesTakeRoom();
        roomForBothOrNeither();
        roomForSomePieces();
        roomComesBack();
        downLosesAll();
        takenOneByOne();
        earlierTimesFirst();
        sameTimePutEarlierFirst();
        firstBeforeItsCopy();
        none();
        Checks.end();
    }

    private static void fiveHundredAndTwelveCalls() {
        Checks.sentence("An object is used for at most 512 calls after it has been made");
        Bench x = Bench.with(1500, 50);
        x.fates(0, LATE, 1);
        x.feedBytes(1, 1480);
        x.put(0, 0, 1, 1);
        x.feedBytes(61, 1480);
        x.put(0, 0, 1, 2);
        x.feedBytes(121, 8 * (x.callsLeft() - 12));
        x.put(0, 0, 1, 3);
        Checks.due("all due", 3, () -> x.pass(200));
        Checks.due("next", true, x::next);
        Checks.due("first byte of the second", 61, () -> x.byteAt(0));
        Checks.due("its last byte", 61 + 1479 & 255, () -> x.byteAt(1479));
        Checks.due("next", true, x::next);
        Checks.due("first byte of the third", 121, () -> x.byteAt(0));
        Checks.due("next", true, x::next);
        Checks.due("first byte of the first, fed hundreds of calls ago", 1, () -> x.byteAt(0));
        Checks.due("its second byte", 2, () -> x.byteAt(1));
        Checks.due("the 511th call", 1479 & 255, () -> x.byteAt(1478));
        Checks.due("the 512th call", 1480 & 255, () -> x.byteAt(1479));
        Checks.same("calls left", "0", String.valueOf(x.callsLeft()));
    }

    private static void timeAtFirst() {
        Checks.sentence("TIME is counted in ticks, at first 0");
        Bench x = Bench.with(100, 1);
        x.putEmpty(0, 1);
        Checks.due("no tick", 0, () -> x.pass(0));
        Checks.due("one tick", 1, () -> x.pass(1));
    }

    private static void timeAtMost() {
        Checks.sentence("TIME .. to 1000000");
        Bench x = Bench.beyondItsPromise();
        x.net(100, 1);
        for (int i = 0; i < 999; i++) {
            x.pass(1000);
        }
        x.pass(998);
        x.putEmpty(0, 1);
        Checks.badState("999998 and 3", () -> x.pass(3));
        Checks.due("999999", 1, () -> x.pass(1));
        Checks.badState("999999 and 2", () -> x.pass(2));
        x.putEmpty(0, 2);
        Checks.due("1000000", 2, () -> x.pass(1));
        Checks.badState("1000001", () -> x.pass(1));
        Checks.badState("1001000", () -> x.pass(1000));
        Checks.due("1000000 still", 2, () -> x.pass(0));
        x.putEmpty(0, 3);
        Checks.due("what is due behind the last tick is under way", 3, x::underWay);
        Checks.due("but never due", 2, () -> x.pass(0));
    }

    private static void netsAtMost() {
        Checks.sentence("NETS are 0, 1, .., at most 24");
        Bench x = new Bench();
        for (int i = 0; i < 24; i++) {
            Checks.due("net " + i, i, () -> x.net(100, 1));
        }
        Checks.badState("net 24", () -> x.net(100, 1));
        Checks.badState("net 24 once more", () -> x.net(1500, 50));
        Checks.due("put on net 22", 0, () -> x.putEmpty(22, 1));
        Checks.due("put on net 23", 0, () -> x.putEmpty(23, 1));
        Checks.badArgument("put on net 24", () -> x.putEmpty(24, 1));
    }

    private static void largest() {
        Checks.sentence("a LARGEST size of what a frame carries, 100 .. 1500 bytes");
        Bench x = new Bench();
        for (int wrong : new int[] {LEAST, -100, -1, 0, 98, 99, 1501, 1502, 65536 + 100, MOST}) {
            Checks.badArgument("net(" + wrong + ", 1)", () -> x.net(wrong, 1));
        }
        int number = 0;
        for (int fine : new int[] {100, 101, 1499, 1500}) {
            Checks.due("net(" + fine + ", 1)", number, () -> x.net(fine, 1));
            number++;
        }
        Checks.badArgument("no more nets than these", () -> x.puts(4));
    }

    private static void delay() {
        Checks.sentence("a DELAY, 1 .. 50 ticks");
        Bench x = new Bench();
        for (int wrong : new int[] {LEAST, -50, -1, 0, 51, 52, 256 + 1, MOST}) {
            Checks.badArgument("net(100, " + wrong + ")", () -> x.net(100, wrong));
        }
        int number = 0;
        for (int fine : new int[] {1, 2, 49, 50}) {
            Checks.due("net(100, " + fine + ")", number, () -> x.net(100, fine));
            number++;
        }
        Checks.badArgument("no more nets than these", () -> x.puts(4));
    }

    private static void stationsThatPut() {
        Checks.sentence("STATIONS, 0 .. 7 (from)");
        Bench x = Bench.with(100, 1);
        for (int wrong : new int[] {LEAST, -8, -2, -1, 8, 9, 256, MOST}) {
            Checks.badArgument("from " + wrong + " for 3", () -> x.put(0, wrong, 3, 1));
            Checks.badArgument("from " + wrong + " for all", () -> x.put(0, wrong, -1, 1));
        }
        Checks.due("nothing was put", 0, () -> x.puts(0));
        for (int from = 0; from <= 7; from++) {
            int station = from;
            Checks.due("from " + from, 0, () -> x.put(0, station, -1, 1));
            x.pass(1);
            Checks.due("it arrives", true, x::next);
            Checks.due("put by", from, () -> x.arrival(1));
        }
    }

    private static void stationsAsGoals() {
        Checks.sentence("STATIONS, 0 .. 7 (goal, or -1 for all)");
        Bench x = Bench.with(100, 1);
        for (int wrong : new int[] {LEAST, -8, -3, -2, 8, 9, 255, MOST}) {
            Checks.badArgument("from 3 for " + wrong, () -> x.put(0, 3, wrong, 1));
        }
        Checks.due("nothing was put", 0, () -> x.puts(0));
        for (int goal = -1; goal <= 7; goal++) {
            int station = goal;
            int from = goal == 0 ? 7 : 0;
            Checks.due("for " + goal, 0, () -> x.put(0, from, station, 1));
            x.pass(1);
            Checks.due("it arrives", true, x::next);
            Checks.due("its goal", goal, () -> x.arrival(2));
        }
    }

    private static void upAtFirst() {
        Checks.sentence("it is UP (at first) or down");
        Bench x = Bench.with(100, 1);
        x.putEmpty(0, 1);
        Checks.due("at first", 1, x::underWay);
        x.link(0, false);
        x.putEmpty(0, 2);
        Checks.due("down", 0, x::underWay);
        x.link(0, true);
        x.putEmpty(0, 3);
        Checks.due("up", 1, x::underWay);
        x.net(100, 1);
        x.putEmpty(1, 4);
        Checks.due("a later net at first", 2, x::underWay);
    }

    private static void anyNumber() {
        Checks.sentence("A DATAGRAM has a number, any int");
        int[] numbers = {LEAST, LEAST + 1, -65537, -1, 0, 1, 255, 256, 65536, MOST - 1, MOST};
        Bench x = Bench.with(100, 1);
        for (int number : numbers) {
            Checks.due("put", 0, () -> x.putEmpty(0, number));
        }
        x.pass(1);
        for (int number : numbers) {
            Checks.due("next", true, x::next);
            Checks.due("number", number, () -> x.arrival(3));
        }
    }

    private static void payload() {
        Checks.sentence("a payload of 0 .. 1480 bytes");
        for (int size : new int[] {0, 1, 2, 7, 8, 9, 1479, 1480}) {
            Bench x = Bench.with(1500, 1);
            x.feedBytes(5, size);
            if (size == 1480) {
                Checks.badState("1481", () -> x.feed(0, 1));
                Checks.badState("1488", () -> x.feed(0, 8));
            }
            Checks.due(size + " bytes", 0, () -> x.put(0, 0, 1, 1));
            x.pass(1);
            Checks.due("next", true, x::next);
            Checks.due("whole", size, () -> x.arrival(5));
            Checks.due("size", size, () -> x.arrival(6));
            Checks.badIndex("byte behind the last", () -> x.byteAt(size));
            if (size > 0) {
                Checks.due("first byte", 5, () -> x.byteAt(0));
                Checks.due("last byte", 5 + size - 1 & 255, () -> x.byteAt(size - 1));
            }
        }
    }

    private static int frames(Bench x, int payload) {
        x.feedBytes(0, payload);
        return x.put(0, 0, 1, 1);
    }

    private static void headOfTwentyBytes() {
        Checks.sentence("with its head it takes 20 bytes more. One that is larger .. is CUT");
        for (int largest = 100; largest <= 1500; largest++) {
            String net = " on a net for " + largest;
            int most = largest - 20;
            Checks.due("one less" + net, 0, () -> frames(Bench.with(most + 20, 1), most - 1));
            Checks.due("as large" + net, 0, () -> frames(Bench.with(most + 20, 1), most));
            if (most < 1480) {
                Checks.due("one more" + net, 2, () -> frames(Bench.with(most + 20, 1), most + 1));
            }
        }
    }

    /** How a payload is cut: every piece's from and size, and its first and last byte. */
    private static void cut(int largest, int payload, int eachSize) {
        String what = payload + " bytes on a net for " + largest;
        Bench x = Bench.with(largest, 1);
        int pieces = payload / eachSize + (payload % eachSize > 0 ? 1 : 0);
        Checks.due(what, pieces, () -> frames(x, payload));
        Checks.due(what + ": frames", pieces, () -> x.puts(0));
        Checks.due(what + ": arrivals", pieces, () -> x.pass(1));
        int from = 0;
        for (int i = 1; i <= pieces; i++) {
            String piece = what + ": piece " + i;
            int size = i < pieces ? eachSize : payload - from;
            int begin = from;
            Checks.due(piece, true, x::next);
            Checks.due(piece + ": from", begin, () -> x.arrival(4));
            Checks.due(piece + ": whole", payload, () -> x.arrival(5));
            Checks.due(piece + ": size", size, () -> x.arrival(6));
            Checks.due(piece + ": first byte", begin & 255, () -> x.byteAt(0));
            Checks.due(piece + ": last byte", begin + size - 1 & 255, () -> x.byteAt(size - 1));
            Checks.badIndex(piece + ": byte behind the last", () -> x.byteAt(size));
            from += size;
        }
        Checks.due(what + ": no more", false, x::next);
    }

    private static void piecesOfEightfoldSize() {
        Checks.sentence("as many bytes as the largest less 20, rounded down to a multiple of 8");
        for (int largest = 100; largest < 1500; largest++) {
            int eachSize = largest - 20;
            while (eachSize % 8 != 0) {
                eachSize--;
            }
            cut(largest, largest - 19, eachSize);
        }
    }

    private static void lastPieceIsNoLarger() {
        Checks.sentence("the last one what is left, no more than that either");
        for (int largest : new int[] {100, 101, 107, 108, 115, 116, 300, 515, 516, 755, 763}) {
            int eachSize = (largest - 20) / 8 * 8;
            for (int whole = 2 * eachSize; whole <= 1480; whole += eachSize) {
                cut(largest, whole - 1, eachSize);
                cut(largest, whole, eachSize);
                if (whole < 1480) {
                    cut(largest, whole + 1, eachSize);
                }
            }
            // What is left would go on a net that has room for the odd bytes too.
            int odd = largest - 20 - eachSize;
            if (odd > 0) {
                cut(largest, eachSize + largest - 20, eachSize);
            }
        }
        cut(763, 1480, 736);
        cut(764, 1480, 744);
        cut(1499, 1480, 1472);
        cut(100, 1480, 80);
    }

    private static void fromAndWhole() {
        Checks.sentence("each tells where it lies in the whole (FROM) and how many bytes that has");
        Bench x = Bench.with(100, 1);
        x.feedBytes(0, 8);
        x.put(0, 0, 1, 1);
        x.feedBytes(0, 81);
        x.put(0, 0, 1, 2);
        x.feedBytes(0, 9);
        x.put(0, 0, 1, 3);
        x.pass(1);
        int[][] due = {{0, 8, 8}, {0, 81, 80}, {80, 81, 1}, {0, 9, 9}};
        for (int[] one : due) {
            Checks.due("next", true, x::next);
            for (int i = 0; i < 3; i++) {
                int at = i;
                Checks.due("from, whole, size", one[i], () -> x.arrival(4 + at));
            }
        }
    }

    private static void notCut() {
        Checks.sentence("One that is not cut is a piece by itself, from 0 on");
        for (int size : new int[] {0, 1, 79, 80}) {
            Bench x = Bench.with(100, 1);
            Checks.due("put " + size, 0, () -> frames(x, size));
            Checks.due("one frame", 1, () -> x.puts(0));
            Checks.due("one arrival", 1, () -> x.pass(1));
            Checks.due("next", true, x::next);
            Checks.due("from", 0, () -> x.arrival(4));
            Checks.due("whole", size, () -> x.arrival(5));
            Checks.due("all of it", size, () -> x.arrival(6));
        }
    }

    private static void piecesInTheirOrder() {
        Checks.sentence("Pieces are put on the net in their order, one frame each");
        // The third piece of five is the one whose fate is another one.
        for (int fate = IN_TIME; fate <= LATE; fate++) {
            Bench x = Bench.with(100, 2);
            x.fates(0, (long) fate << 4, 3);
            Checks.due("cut", 5, () -> frames(x, 321));
            Checks.due("five frames", 5, () -> x.puts(0));
            Checks.due("three fates", 0, () -> x.fated(0));
            x.pass(8);
            int[][] due = {{0, 80, 160, 240, 320}, {0, 80, 240, 320},
                {0, 80, 160, 240, 320, 160}, {0, 80, 240, 320, 160}};
            for (int from : due[fate]) {
                Checks.due("next", true, x::next);
                Checks.due("fate " + fate + ": from", from, () -> x.arrival(4));
            }
            Checks.due("no more", false, x::next);
        }
    }

    private static void scheduleAtMost() {
        Checks.sentence("a row of FATES, at most 64");
        Bench x = Bench.with(100, 1);
        x.net(100, 1);
        Checks.due("32", 32, () -> x.fates(0, 0, 32));
        Checks.due("63", 63, () -> x.fates(0, 0, 31));
        Checks.badState("65", () -> x.fates(0, 0, 2));
        Checks.badState("95", () -> x.fates(0, 0, 32));
        Checks.due("63 still", 63, () -> x.fated(0));
        Checks.due("64", 64, () -> x.fates(0, 0, 1));
        Checks.badState("65 again", () -> x.fates(0, 0, 1));
        Checks.badState("96", () -> x.fates(0, 0, 32));
        Checks.due("64 still", 64, () -> x.fated(0));
        Checks.due("another net has its own row", 32, () -> x.fates(1, 0, 32));
        x.putEmpty(0, 1);
        Checks.badState("63 and 2", () -> x.fates(0, 0, 2));
        Checks.due("64 again", 64, () -> x.fates(0, 0, 1));
    }

    /** The fates 0, 1, 2, 3 in an order that does not repeat soon. */
    private static int someFate(int i) {
        return (i * i * 7 + i / 3) & 3;
    }

    private static void addFates(Bench x, int first, int count) {
        int done = 0;
        while (done < count) {
            int n = Math.min(32, count - done);
            long fates = 0;
            for (int i = 0; i < n; i++) {
                fates |= (long) someFate(first + done + i) << 2 * i;
            }
            x.fates(0, fates, n);
            done += n;
        }
    }

    private static void takeFates(String what, Bench x, int first, int count) {
        int[] arrivals = {1, 0, 2, 1};
        int under = x.underWay();
        for (int i = first; i < first + count; i++) {
            x.putEmpty(0, i);
            under += arrivals[someFate(i)];
            Checks.due(what + ": under way behind fate " + i, under, x::underWay);
        }
    }

    private static void scheduleWrapsAround() {
        Checks.sentence("of which each frame .. takes the first one away");
        for (int taken = 1; taken <= 64; taken++) {
            Bench x = Bench.with(100, 1);
            addFates(x, 0, 64);
            takeFates("64", x, 0, taken);
            int left = 64 - taken;
            Checks.due("left", left, () -> x.fated(0));
            addFates(x, 64, taken);
            Checks.due("64 again", 64, () -> x.fated(0));
            Checks.badState("one more", () -> x.fates(0, 0, 1));
            takeFates("64 behind " + taken, x, taken, 64);
            Checks.due("none left", 0, () -> x.fated(0));
        }
    }

    /** A frame with a fate arrives at just these ticks, and not a tick before. */
    private static void arrivesAt(int delay, int fate, int... ticks) {
        Bench x = Bench.with(100, delay);
        x.fates(0, fate, 1);
        x.putEmpty(0, 77);
        String what = "delay " + delay + ", fate " + fate;
        Checks.due(what + ": under way", ticks.length, x::underWay);
        int time = 0;
        for (int tick : ticks) {
            int before = tick - 1 - time;
            Checks.due(what + ": due a tick before " + tick, 0, () -> x.pass(before));
            Checks.due(what + ": taken a tick before " + tick, false, x::next);
            Checks.due(what + ": due at " + tick, 1, () -> x.pass(1));
            Checks.due(what + ": taken at " + tick, true, x::next);
            Checks.due(what + ": number", 77, () -> x.arrival(3));
            time = tick;
        }
        Checks.due(what + ": left", 0, x::underWay);
        Checks.due(what + ": due later", 0, () -> x.pass(1000));
    }

    private static void fateInTime() {
        Checks.sentence("0: it arrives behind the delay");
        for (int delay = 1; delay <= 50; delay++) {
            arrivesAt(delay, IN_TIME, delay);
        }
    }

    private static void fateLost() {
        Checks.sentence("1: it is lost");
        arrivesAt(1, LOST);
        arrivesAt(50, LOST);
    }

    private static void fateCopied() {
        Checks.sentence("2: it arrives behind the delay, and once more behind three times it");
        for (int delay = 1; delay <= 50; delay++) {
            arrivesAt(delay, COPIED, delay, 3 * delay);
        }
    }

    private static void fateLate() {
        Checks.sentence("3: it arrives behind four times the delay");
        for (int delay = 1; delay <= 50; delay++) {
            arrivesAt(delay, LATE, 4 * delay);
        }
    }

    private static void withoutFates() {
        Checks.sentence("Without fates it is 0");
        for (int count = 0; count <= 2; count++) {
            Bench x = Bench.with(100, 3);
            if (count > 0) {
                x.fates(0, 0b0101, count);
            }
            for (int i = 0; i < 3; i++) {
                x.putEmpty(0, i);
            }
            Checks.due("behind " + count + " fates", 3 - count, x::underWay);
            Checks.due("due a tick before", 0, () -> x.pass(2));
            Checks.due("due in time", 3 - count, () -> x.pass(1));
        }
    }

    private static void down() {
        Checks.sentence("What is put on a net that is down is lost and takes none");
        Bench x = Bench.with(100, 1);
        x.fates(0, 0b10_01_00, 3);
        x.putEmpty(0, 1);
        Checks.due("up: one was taken", 2, () -> x.fated(0));
        x.link(0, false);
        Checks.due("going down takes none", 2, () -> x.fated(0));
        Checks.due("cut all the same", 2, () -> frames(x, 81));
        x.putEmpty(0, 2);
        Checks.due("all is lost", 0, x::underWay);
        Checks.due("none was taken", 2, () -> x.fated(0));
        x.link(0, true);
        Checks.due("what was lost does not come back", 0, x::underWay);
        x.putEmpty(0, 3);
        Checks.due("the first of those left: lost", 0, x::underWay);
        x.putEmpty(0, 4);
        Checks.due("the second: copied", 2, x::underWay);
        Checks.due("fates are added while it is down too", 4, () -> {
            x.link(0, false);
            return x.fates(0, 0, 4);
        });
        x.putEmpty(0, 5);
        Checks.due("and stay", 4, () -> x.fated(0));
    }

    private static void arrivalsAtMost() {
        Checks.sentence("At most 512 ARRIVALS are under way");
        for (int fate : new int[] {IN_TIME, LATE}) {
            Bench x = Bench.with(100, 5);
            x.net(100, 5);
            x.fill(0, 510);
            Checks.due("510", 510, x::underWay);
            x.fates(1, fate | fate << 2 | fate << 4, 3);
            x.putEmpty(1, 1);
            Checks.due("511", 511, x::underWay);
            x.putEmpty(1, 2);
            Checks.due("512", 512, x::underWay);
            x.putEmpty(1, 3);
            Checks.due("no 513", 512, x::underWay);
            Checks.due("three were put", 3, () -> x.puts(1));
            Checks.due("three fates were taken", 0, () -> x.fated(1));
            x.link(0, false);
            Checks.due("two arrive", 2, () -> x.pass(20));
            for (int number = 1; number <= 2; number++) {
                Checks.due("next", true, x::next);
                Checks.due("number", number, () -> x.arrival(3));
            }
            Checks.due("the third never arrives", false, x::next);
        }
    }

    private static void dueOnesTakeRoom() {
        Checks.sentence("those that are due and were not taken yet with them");
        Bench x = Bench.with(100, 1);
        x.fill(0, 512);
        Checks.due("all due", 512, () -> x.pass(3));
        Checks.due("under way all the same", 512, x::underWay);
        x.putEmpty(0, 1000);
        Checks.due("no room", 512, x::underWay);
        Checks.due("one is taken", true, x::next);
        Checks.due("511", 511, x::underWay);
        x.putEmpty(0, 1001);
        Checks.due("room for one", 512, x::underWay);
        x.putEmpty(0, 1002);
        Checks.due("not for two", 512, x::underWay);
        Checks.due("the lost one is not due", 512, () -> x.pass(1));
    }

    private static void roomForBothOrNeither() {
        Checks.sentence("a frame (with fate 2, both arrivals) for which there is no room is lost");
        int[] behind = {511, 512, 511, 512};
        for (int before = 509; before <= 512; before++) {
            Bench x = Bench.with(100, 5);
            x.net(100, 7);
            x.fill(0, before);
            x.fates(1, COPIED, 1);
            Checks.due("put", 0, () -> x.putEmpty(1, 1));
            Checks.due("copied behind " + before, behind[before - 509], x::underWay);
            Checks.due("its fate was taken", 0, () -> x.fated(1));
            Checks.due("it was put", 1, () -> x.puts(1));
            int copies = behind[before - 509] - before;
            Checks.due("the other net's are lost", before, () -> x.link(0, false));
            Checks.due("both are left, or neither", copies, () -> x.pass(21));
        }
    }

    /** Which pieces arrive of a datagram of four, put when 'before' are under way. */
    private static void somePieces(int before, int fates, int... froms) {
        String what = before + " under way, fates " + Integer.toBinaryString(fates);
        Bench x = Bench.with(100, 5);
        x.net(100, 5);
        x.fill(0, before);
        x.fates(1, fates, 4);
        x.feedBytes(9, 241);
        Checks.due(what + ": pieces", 4, () -> x.put(1, 0, 1, 1));
        Checks.due(what + ": frames", 4, () -> x.puts(1));
        Checks.due(what + ": fates left", 0, () -> x.fated(1));
        Checks.due(what + ": under way", before + froms.length, x::underWay);
        Checks.due(what + ": the payload is used up", 1, () -> x.feed(0, 1));
        x.link(0, false);
        x.pass(20);
        for (int from : froms) {
            Checks.due(what + ": next", true, x::next);
            Checks.due(what + ": from", from, () -> x.arrival(4));
            Checks.due(what + ": first byte", 9 + from & 255, () -> x.byteAt(0));
        }
        Checks.due(what + ": no more", false, x::next);
    }

    private static void roomForSomePieces() {
        Checks.sentence("a frame .. for which there is no room is lost (a piece by itself)");
        somePieces(508, 0, 0, 80, 160, 240);
        somePieces(509, 0, 0, 80, 160);
        somePieces(510, 0, 0, 80);
        somePieces(511, 0, 0);
        somePieces(512, 0);
        // The first fate stands lowest: copied, in time, lost, late.
        somePieces(511, 0b11_01_00_10, 80);
        somePieces(510, 0b11_01_00_10, 0, 0);
        somePieces(509, 0b11_01_00_10, 0, 80, 0);
        somePieces(508, 0b11_01_00_10, 0, 80, 0, 240);
        somePieces(512, 0b11_01_00_10);
        // In time, copied, late, in time.
        somePieces(510, 0b00_11_10_00, 0, 160);
        somePieces(509, 0b00_11_10_00, 0, 80, 80);
    }

    private static void roomComesBack() {
        Checks.sentence("At most 512 ARRIVALS (what was taken or lost makes room)");
        Bench x = Bench.with(100, 1);
        x.net(100, 1);
        x.fill(0, 511);
        x.putEmpty(1, 1);
        Checks.due("full", 512, x::underWay);
        Checks.due("one net goes down", 1, () -> x.link(1, false));
        x.link(1, true);
        x.fates(1, COPIED, 1);
        x.putEmpty(1, 2);
        Checks.due("room for one, not for both", 511, x::underWay);
        x.pass(1);
        Checks.due("one is taken", true, x::next);
        x.fates(1, COPIED, 1);
        x.putEmpty(1, 3);
        Checks.due("room for both", 512, x::underWay);
        Checks.due("the other net goes down", 510, () -> x.link(0, false));
        Checks.due("both are left", 2, x::underWay);
    }

    private static void downLosesAll() {
        Checks.sentence("When a net goes down, all its arrivals are lost");
        for (int passed = 0; passed <= 21; passed++) {
            int ticks = passed;
            Bench x = Bench.with(100, 5);
            x.net(100, 5);
            x.fates(0, 0b11_10_01_00, 4);
            x.fates(1, 0b11_10_01_00, 4);
            for (int i = 0; i < 8; i++) {
                x.putEmpty(i % 2, i);
            }
            Checks.due("under way", 8, x::underWay);
            x.pass(ticks);
            Checks.due("at " + passed + ", due or not", 4, () -> x.link(0, false));
            Checks.due("the other net's are left", 4, x::underWay);
            Checks.due("they come in time", 4, () -> x.pass(20));
            for (int number : new int[] {1, 5, 5, 7}) {
                Checks.due("next", true, x::next);
                Checks.due("number", number, () -> x.arrival(3));
            }
            Checks.due("no more", false, x::next);
        }
    }

    private static void numbers(String what, Bench x, int... numbers) {
        for (int number : numbers) {
            Checks.due(what + ": next", true, x::next);
            Checks.due(what + ": number", number, () -> x.arrival(3));
        }
        Checks.due(what + ": no more", false, x::next);
    }

    private static void takenOneByOne() {
        Checks.sentence("Arrivals are taken one by one as soon as they are due");
        Bench x = Bench.with(100, 3);
        for (int number = 1; number <= 3; number++) {
            x.putEmpty(0, number);
        }
        x.pass(1);
        x.putEmpty(0, 4);
        Checks.due("none is due a tick before", 0, () -> x.pass(1));
        Checks.due("none is taken a tick before", false, x::next);
        Checks.due("three are due", 3, () -> x.pass(1));
        for (int number = 1; number <= 3; number++) {
            int left = 3 - number;
            Checks.due("taken as soon as due", true, x::next);
            Checks.due("in turn", number, () -> x.arrival(3));
            Checks.due("one by one", left + 1, x::underWay);
            Checks.due("those that are due still", left, () -> x.pass(0));
        }
        Checks.due("the fourth is not due", false, x::next);
        x.pass(1);
        Checks.due("then it is", true, x::next);
        Checks.due("the fourth", 4, () -> x.arrival(3));
        Checks.due("none is left", 0, x::underWay);
    }

    private static void earlierTimesFirst() {
        Checks.sentence("earlier times first");
        int[][] orders = {{0, 1, 2}, {0, 2, 1}, {1, 0, 2}, {1, 2, 0}, {2, 0, 1}, {2, 1, 0}};
        for (int[] order : orders) {
            Bench x = Bench.with(100, 11);
            x.net(100, 12);
            x.net(100, 13);
            for (int net : order) {
                x.putEmpty(net, net);
            }
            Checks.due("all due at once", 3, () -> x.pass(13));
            numbers("by time", x, 0, 1, 2);
        }
    }

    private static void sameTimePutEarlierFirst() {
        Checks.sentence("of the same time those that were put earlier");
        int[][] orders = {{0, 1, 2}, {0, 2, 1}, {1, 0, 2}, {1, 2, 0}, {2, 0, 1}, {2, 1, 0}};
        for (int[] order : orders) {
            // At 12 come a late one (4 times 3), a copy (3 times 4) and one in time.
            Bench x = Bench.with(100, 3);
            x.net(100, 4);
            x.net(100, 12);
            x.net(100, 1);
            x.fates(0, LATE, 1);
            x.fates(1, COPIED, 1);
            for (int net : order) {
                x.putEmpty(net, net);
            }
            x.pass(10);
            x.putEmpty(3, 10);
            x.pass(1);
            x.putEmpty(3, 11);
            Checks.due("all due", 6, () -> x.pass(1));
            numbers("by put", x, 1, 10, order[0], order[1], order[2], 11);
        }
    }

    private static void firstBeforeItsCopy() {
        Checks.sentence("the first one of a frame before its copy");
        Bench x = Bench.with(100, 1);
        x.net(100, 2);
        x.fates(0, COPIED, 1);
        x.putEmpty(0, 1);
        x.putEmpty(1, 2);
        Checks.due("all due at once", 3, () -> x.pass(3));
        numbers("the other one between", x, 1, 2, 1);
    }

    private static void none() {
        Checks.sentence("NONE = -1: There is none; as a goal: all");
        Checks.due("NONE", -1, () -> WireBench.NONE);
        Bench x = Bench.with(100, 1);
        Checks.due("as a goal", 0, () -> x.put(0, 7, WireBench.NONE, 1));
        Checks.badArgument("not as the station that puts", () -> x.put(0, WireBench.NONE, 0, 1));
        Checks.badArgument("not as a net", () -> x.put(WireBench.NONE, 0, 1, 1));
        x.pass(1);
        x.next();
        Checks.due("as the goal of an arrival", WireBench.NONE, () -> x.arrival(2));
    }
}
