/** Each promise of the document: ordinary inputs, the edges that it names, and wrong inputs. */
public final class PromisesTest {
    private static final int[] WRONG_INTS = {Integer.MIN_VALUE, -1, Integer.MAX_VALUE};

    public static void main(String[] args) {
        aNewObject();
        net();
        link();
        linkLosesWhatIsDue();
        linkKeepsTheOrderOfTheOthers();
        fates();
        fatesAreARing();
        feed();
        putUncut();
        putCut();
        putCutIntoMany();
        putCutsWhereTheSizesSay();
        putWrong();
        putOnANetThatIsDown();
        eachPieceMeetsItsOwnFate();
        pass();
        passToTheLastTick();
        next();
        nextTakesEarlierPutsFirst();
        arrival();
        byteAt();
        underWay();
        roomForBothOrNeither();
        roomForTheLastTwo();
        fated();
        puts();
        Checks.end();
    }

    private static void piece(String what, Bench x, int from, int whole, int size, int first) {
        Checks.due(what + ": next", true, x::next);
        Checks.due(what + ": from", from, () -> x.arrival(4));
        Checks.due(what + ": whole", whole, () -> x.arrival(5));
        Checks.due(what + ": size", size, () -> x.arrival(6));
        for (int i = 0; i < size; i++) {
            int at = i;
            Checks.due(what + ": byte " + i, first + i & 255, () -> x.byteAt(at));
        }
        Checks.badIndex(what + ": byte behind the last", () -> x.byteAt(size));
        Checks.badIndex(what + ": byte -1", () -> x.byteAt(-1));
    }

    private static void arrives(String what, Bench x, int net, int number) {
        Checks.due(what + ": next", true, x::next);
        Checks.due(what + ": net", net, () -> x.arrival(0));
        Checks.due(what + ": number", number, () -> x.arrival(3));
    }

    private static void aNewObject() {
        Bench x = new Bench();
        Checks.due("NONE", -1, () -> WireBench.NONE);
        Checks.due("new: underWay", 0, x::underWay);
        Checks.due("new: next", false, x::next);
        Checks.due("new: pass(0)", 0, () -> x.pass(0));
        Checks.badArgument("new: fated(0)", () -> x.fated(0));
        Checks.badArgument("new: puts(0)", () -> x.puts(0));
        Checks.badState("new: arrival(0)", () -> x.arrival(0));
        Checks.badState("new: byteAt(0)", () -> x.byteAt(0));
        Checks.due("new: net", 0, () -> x.net(100, 1));
        Bench other = new Bench();
        Checks.badArgument("a second object shares no net", () -> other.puts(0));
    }

    private static void net() {
        Bench x = new Bench();
        Checks.badArgument("net(99, 1)", () -> x.net(99, 1));
        Checks.badArgument("net(1501, 1)", () -> x.net(1501, 1));
        Checks.badArgument("net(100, 0)", () -> x.net(100, 0));
        Checks.badArgument("net(100, 51)", () -> x.net(100, 51));
        for (int wrong : WRONG_INTS) {
            Checks.badArgument("net(wrong, 1)", () -> x.net(wrong, 1));
            Checks.badArgument("net(100, wrong)", () -> x.net(100, wrong));
        }
        int[][] sizes = {{100, 1}, {100, 50}, {1500, 1}, {1500, 50}};
        for (int i = 0; i < 24; i++) {
            int[] size = sizes[i % 4];
            Checks.due("net " + i, i, () -> x.net(size[0], size[1]));
        }
        Checks.badState("net 24", () -> x.net(100, 1));
        Checks.badArgument("net 24 with a wrong largest", () -> x.net(99, 1));
        Checks.badArgument("net 24 with a wrong delay", () -> x.net(100, 0));
        Checks.badArgument("puts(24)", () -> x.puts(24));
        Checks.due("put on net 23, which is up", 0, () -> x.put(23, 0, 1, 1));
        Checks.due("it is under way", 1, x::underWay);
        Checks.due("delay of net 23: 49", 0, () -> x.pass(49));
        Checks.due("delay of net 23: 50", 1, () -> x.pass(1));
    }

    private static void link() {
        Bench x = Bench.with(100, 5);
        x.net(100, 5);
        for (int wrong : new int[] {Integer.MIN_VALUE, -1, 2, 24, Integer.MAX_VALUE}) {
            Checks.badArgument("link(wrong, true)", () -> x.link(wrong, true));
            Checks.badArgument("link(wrong, false)", () -> x.link(wrong, false));
        }
        x.fates(0, 2, 1);
        x.put(0, 0, 1, 1);
        x.put(0, 0, 1, 2);
        x.put(1, 0, 1, 3);
        Checks.due("link up, being up", 0, () -> x.link(0, true));
        Checks.due("nothing lost by that", 4, x::underWay);
        x.fates(0, 1, 1);
        Checks.due("link down", 3, () -> x.link(0, false));
        Checks.due("the other net's is left", 1, x::underWay);
        Checks.due("the schedule is left", 1, () -> x.fated(0));
        Checks.due("link down once more", 0, () -> x.link(0, false));
        Checks.due("put on it, down", 0, () -> x.put(0, 0, 1, 4));
        Checks.due("that is lost", 1, x::underWay);
        Checks.due("link up", 0, () -> x.link(0, true));
        x.put(0, 0, 1, 5);
        Checks.due("its fate was the one that was left", 1, x::underWay);
        x.put(0, 0, 1, 6);
        Checks.due("up again", 2, x::underWay);
        Checks.due("both due", 2, () -> x.pass(5));
        arrives("the other net's", x, 1, 3);
        arrives("put behind up", x, 0, 6);
    }

    private static void linkLosesWhatIsDue() {
        Bench x = Bench.with(100, 5);
        x.feedBytes(1, 3);
        x.put(0, 2, 3, 1);
        x.put(0, 2, 3, 2);
        x.pass(10);
        x.next();
        Checks.due("link down loses what is due, not what was taken", 1, () -> x.link(0, false));
        Checks.due("none due", 0, () -> x.pass(0));
        Checks.due("none to take", false, x::next);
        Checks.due("the taken one stays", 1, () -> x.arrival(3));
        Checks.due("and its bytes", 3, () -> x.byteAt(2));
    }

    private static void linkKeepsTheOrderOfTheOthers() {
        Bench x = Bench.with(100, 3);
        x.net(100, 3);
        x.net(100, 2);
        for (int i = 0; i < 12; i++) {
            x.put(i % 3, 0, 1, i);
        }
        Checks.due("the second net's four are lost", 4, () -> x.link(1, false));
        Checks.due("the others are due", 8, () -> x.pass(3));
        for (int number : new int[] {2, 5, 8, 11}) {
            arrives("third net", x, 2, number);
        }
        for (int number : new int[] {0, 3, 6, 9}) {
            arrives("first net", x, 0, number);
        }
        Checks.due("no more", false, x::next);
        x.link(1, true);
        for (int i = 100; i < 120; i++) {
            x.put(1, 0, 1, i);
        }
        x.pass(3);
        for (int i = 100; i < 120; i++) {
            arrives("room that was lost and taken is used again", x, 1, i);
        }
    }

    private static void fates() {
        Bench x = Bench.with(100, 5);
        Checks.badArgument("fates of no net", () -> x.fates(1, 0, 1));
        Checks.badArgument("fates of net -1", () -> x.fates(-1, 0, 1));
        Checks.badArgument("0 fates", () -> x.fates(0, 0, 0));
        Checks.badArgument("33 fates", () -> x.fates(0, 0, 33));
        for (int wrong : WRONG_INTS) {
            Checks.badArgument("fates of a wrong net", () -> x.fates(wrong, 0, 1));
            Checks.badArgument("a wrong number of fates", () -> x.fates(0, 0, wrong));
        }
        Checks.due("first 0, then 1, 2, 3; higher bits count for nothing", 4,
                () -> x.fates(0, -1L << 8 | 0b11100100, 4));
        for (int i = 0; i < 5; i++) {
            x.put(0, 0, 1, i);
        }
        Checks.due("none, one, two, one, and without a fate one", 5, x::underWay);
        int[] dueAt = {5, 5, 5, 15, 20};
        int[] number = {0, 2, 4, 2, 3};
        int time = 0;
        for (int i = 0; i < 5; i++) {
            if (dueAt[i] > time) {
                int ticks = dueAt[i] - time;
                Checks.due("not before " + dueAt[i], 0, () -> x.pass(ticks - 1));
                x.pass(1);
                time = dueAt[i];
            }
            arrives("fated " + i, x, 0, number[i]);
        }
        Checks.due("no more", false, x::next);
    }

    private static void fatesAreARing() {
        Bench x = Bench.with(100, 1);
        long lostThenNot = 0x1111111111111111L;
        Checks.due("32 fates", 32, () -> x.fates(0, lostThenNot, 32));
        Checks.due("64 fates", 64, () -> x.fates(0, lostThenNot, 32));
        Checks.badState("65 fates", () -> x.fates(0, 0, 1));
        Checks.badArgument("33 more: the argument comes first", () -> x.fates(0, 0, 33));
        Checks.badArgument("1 more for no net: the argument comes first", () -> x.fates(1, 0, 1));
        Checks.due("still 64", 64, () -> x.fated(0));
        for (int i = 0; i < 40; i++) {
            x.put(0, 0, 1, i);
        }
        Checks.due("24 left", 24, () -> x.fated(0));
        Checks.due("every second one was lost", 20, x::underWay);
        Checks.due("40 would be one too many only behind 64", 56, () -> x.fates(0, -1L, 32));
        Checks.badState("9 more are too many", () -> x.fates(0, 0, 9));
        Checks.due("8 more are not", 64, () -> x.fates(0, 0x5555, 8));
        for (int i = 0; i < 24; i++) {
            x.put(0, 0, 1, i);
        }
        Checks.due("every second one of the old ones", 32, x::underWay);
        for (int i = 0; i < 32; i++) {
            x.put(0, 0, 1, 1000);
        }
        Checks.due("the 32 late ones are under way", 64, x::underWay);
        Checks.due("but not due", 32, () -> x.pass(1));
        Checks.due("before four ticks", 32, () -> x.pass(2));
        Checks.due("then they are", 64, () -> x.pass(1));
        for (int i = 0; i < 8; i++) {
            x.put(0, 0, 1, i);
        }
        Checks.due("the last 8 are lost", 64, x::underWay);
        Checks.due("and the schedule is empty", 0, () -> x.fated(0));
        x.put(0, 0, 1, 1);
        Checks.due("without fates it is 0", 65, x::underWay);
    }

    private static void feed() {
        Bench x = Bench.with(1500, 1);
        Checks.badArgument("feed 0", () -> x.feed(1, 0));
        Checks.badArgument("feed 9", () -> x.feed(1, 9));
        for (int wrong : WRONG_INTS) {
            Checks.badArgument("feed wrong", () -> x.feed(1, wrong));
        }
        Checks.due("three of eight bytes", 3, () -> x.feed(0x1122334455667788L, 3));
        Checks.due("all eight", 11, () -> x.feed(0x80FF000102030405L, 8));
        Checks.due("one", 12, () -> x.feed(-1, 1));
        Checks.due("put", 0, () -> x.put(0, 0, 1, 1));
        Checks.due("the payload is used up", 1, () -> x.feed(9, 1));
        x.pass(1);
        x.next();
        int[] bytes = {0x66, 0x77, 0x88, 0x80, 0xFF, 0, 1, 2, 3, 4, 5, 0xFF};
        Checks.due("size", bytes.length, () -> x.arrival(6));
        for (int i = 0; i < bytes.length; i++) {
            int at = i;
            Checks.due("byte " + i, bytes[i], () -> x.byteAt(at));
        }
        x.feedBytes(0, 1472);
        Checks.due("1473 and 7 are 1480", 1480, () -> x.feed(0, 7));
        Checks.badState("1481", () -> x.feed(0, 1));
        Checks.badArgument("the argument comes first", () -> x.feed(0, 9));
        Checks.due("1480 bytes go uncut", 0, () -> x.put(0, 0, 1, 2));
        x.pass(1);
        x.next();
        Checks.due("all are there", 1480, () -> x.arrival(6));
        Checks.due("the first", 9, () -> x.byteAt(0));
        Checks.due("the last counted one", 1471 & 255, () -> x.byteAt(1472));
        x.feedBytes(0, 1479);
        Checks.badState("2 more", () -> x.feed(0x0707, 2));
        Checks.due("1 more: nothing was fed before", 1480, () -> x.feed(0x08, 1));
    }

    private static void putUncut() {
        Bench x = Bench.with(100, 4);
        x.feedBytes(200, 80);
        Checks.due("80 and 20 are not more than 100", 0, () -> x.put(0, 0, 1, Integer.MIN_VALUE));
        Checks.due("an empty one", 0, () -> x.put(0, 7, -1, Integer.MAX_VALUE));
        Checks.due("two frames", 2, () -> x.puts(0));
        Checks.due("both due", 2, () -> x.pass(4));
        piece("80 bytes", x, 0, 80, 80, 200);
        Checks.due("number", Integer.MIN_VALUE, () -> x.arrival(3));
        piece("no bytes", x, 0, 0, 0, 0);
        Checks.due("number", Integer.MAX_VALUE, () -> x.arrival(3));
        Checks.due("for all", -1, () -> x.arrival(2));
        Checks.due("by 7", 7, () -> x.arrival(1));
    }

    private static void putCut() {
        Bench x = Bench.with(100, 4);
        x.feedBytes(7, 81);
        Checks.due("81 and 20 are more than 100", 2, () -> x.put(0, 0, 1, 1));
        x.feedBytes(50, 160);
        Checks.due("160 are two of 80", 2, () -> x.put(0, 3, 1, 2));
        Checks.due("four frames", 4, () -> x.puts(0));
        Checks.due("all due", 4, () -> x.pass(4));
        piece("81: first", x, 0, 81, 80, 7);
        piece("81: last", x, 80, 81, 1, 87);
        piece("160: first", x, 0, 160, 80, 50);
        piece("160: last", x, 80, 160, 80, 130);
        Checks.due("net", 0, () -> x.arrival(0));
        Checks.due("station", 3, () -> x.arrival(1));
        Checks.due("goal", 1, () -> x.arrival(2));
        Checks.due("number", 2, () -> x.arrival(3));
        Checks.due("no more", false, x::next);
    }

    private static void putCutIntoMany() {
        Bench x = Bench.with(100, 4);
        x.feedBytes(0, 1480);
        Checks.due("1480 by 80", 19, () -> x.put(0, 0, 1, 3));
        Checks.due("pass", 19, () -> x.pass(4));
        for (int i = 0; i < 19; i++) {
            Checks.due("piece " + i, true, x::next);
            int from = i * 80;
            Checks.due("from", from, () -> x.arrival(4));
        }
        Checks.due("the last one's size", 40, () -> x.arrival(6));
    }

    private static void putCutsWhereTheSizesSay() {
        // largest, payload, pieces, size of the last one
        int[][] cases = {
            {107, 87, 0, 87}, {107, 88, 2, 8}, {107, 160, 2, 80}, {107, 167, 3, 7},
            {108, 88, 0, 88}, {108, 89, 2, 1}, {115, 95, 0, 95}, {115, 96, 2, 8},
            {115, 183, 3, 7}, {1499, 1479, 0, 1479}, {1499, 1480, 2, 8}, {1500, 1480, 0, 1480},
            {1492, 1473, 2, 1}, {764, 1480, 2, 736}, {763, 1480, 3, 8},
        };
        for (int[] one : cases) {
            String what = one[1] + " bytes on a net for " + one[0];
            Bench x = Bench.with(one[0], 1);
            x.feedBytes(0, one[1]);
            Checks.due(what, one[2], () -> x.put(0, 0, 1, 1));
            int frames = Math.max(1, one[2]);
            Checks.due(what + ": frames", frames, () -> x.pass(1));
            for (int i = 0; i < frames; i++) {
                x.next();
            }
            Checks.due(what + ": last one's size", one[3], () -> x.arrival(6));
            Checks.due(what + ": last one's from", one[1] - one[3], () -> x.arrival(4));
            Checks.due(what + ": last byte", one[1] - 1 & 255, () -> x.byteAt(one[3] - 1));
        }
    }

    private static void putWrong() {
        Bench x = Bench.with(100, 1);
        x.feed(0x0102, 2);
        x.fates(0, 0, 1);
        Checks.badArgument("net 1", () -> x.put(1, 0, 1, 1));
        Checks.badArgument("from 8", () -> x.put(0, 8, 1, 1));
        Checks.badArgument("goal 8", () -> x.put(0, 0, 8, 1));
        Checks.badArgument("goal -2", () -> x.put(0, 0, -2, 1));
        Checks.badArgument("from -1 for all", () -> x.put(0, -1, -1, 1));
        for (int wrong : WRONG_INTS) {
            Checks.badArgument("wrong net", () -> x.put(wrong, 0, 1, 1));
            Checks.badArgument("wrong from", () -> x.put(0, wrong, 1, 1));
        }
        Checks.badArgument("wrong goal", () -> x.put(0, 0, Integer.MIN_VALUE, 1));
        Checks.badArgument("wrong goal", () -> x.put(0, 0, Integer.MAX_VALUE, 1));
        for (int i = 0; i < 8; i++) {
            int station = i;
            Checks.badArgument("goal is from", () -> x.put(0, station, station, 1));
        }
        Checks.due("nothing was put", 0, () -> x.puts(0));
        Checks.due("no fate was taken", 1, () -> x.fated(0));
        Checks.due("nothing is under way", 0, x::underWay);
        Checks.due("the payload stays", 3, () -> x.feed(3, 1));
        Checks.due("put", 0, () -> x.put(0, 7, 0, 1));
        x.pass(1);
        piece("the payload", x, 0, 3, 3, 1);
    }

    private static void putOnANetThatIsDown() {
        Bench x = Bench.with(100, 1);
        x.fates(0, 0, 2);
        x.link(0, false);
        x.feedBytes(0, 81);
        Checks.due("it is cut all the same", 2, () -> x.put(0, 0, 1, 1));
        Checks.due("both frames were put", 2, () -> x.puts(0));
        Checks.due("both are lost", 0, x::underWay);
        Checks.due("no fate was taken", 2, () -> x.fated(0));
        Checks.due("the payload is used up", 1, () -> x.feed(0, 1));
        Checks.due("up", 0, () -> x.link(0, true));
        Checks.due("nothing comes", 0, () -> x.pass(1000));
    }

    private static void eachPieceMeetsItsOwnFate() {
        Bench x = Bench.with(100, 5);
        x.fates(0, 0b11_10_01_00, 4);
        x.feedBytes(0, 330);
        Checks.due("cut", 5, () -> x.put(0, 0, 1, 1));
        Checks.due("each took a fate", 0, () -> x.fated(0));
        Checks.due("at 5", 3, () -> x.pass(5));
        piece("in time", x, 0, 330, 80, 0);
        piece("copied", x, 160, 330, 80, 160);
        piece("without a fate", x, 320, 330, 10, 320);
        Checks.due("at 15", 1, () -> x.pass(10));
        piece("the copy", x, 160, 330, 80, 160);
        Checks.due("at 20", 1, () -> x.pass(5));
        piece("late", x, 240, 330, 80, 240);
        Checks.due("no more", 0, x::underWay);
    }

    private static void pass() {
        Bench x = Bench.with(100, 50);
        for (int wrong : new int[] {Integer.MIN_VALUE, -1, 1001, Integer.MAX_VALUE}) {
            Checks.badArgument("pass(" + wrong + ")", () -> x.pass(wrong));
        }
        x.put(0, 0, 1, 1);
        Checks.due("pass(0)", 0, () -> x.pass(0));
        Checks.due("pass(49)", 0, () -> x.pass(49));
        x.put(0, 0, 1, 2);
        Checks.due("the first is due", 1, () -> x.pass(1));
        Checks.due("and was not taken", 1, () -> x.pass(0));
        Checks.due("the second too", 2, () -> x.pass(1000));
        x.next();
        Checks.due("one was taken", 1, () -> x.pass(0));
        x.next();
        Checks.due("both were", 0, () -> x.pass(1000));
    }

    private static void passToTheLastTick() {
        Bench x = Bench.beyondItsPromise();
        x.net(100, 1);
        for (int i = 0; i < 999; i++) {
            x.pass(1000);
        }
        x.pass(999);
        Checks.badState("1000001", () -> x.pass(2));
        Checks.badState("1000999", () -> x.pass(1000));
        Checks.badArgument("the argument comes first", () -> x.pass(1001));
        x.put(0, 0, 1, 1);
        Checks.due("1000000", 1, () -> x.pass(1));
        Checks.badState("one more", () -> x.pass(1));
        Checks.due("none more", 1, () -> x.pass(0));
    }

    private static void next() {
        Bench x = Bench.with(100, 2);
        Checks.due("nothing under way", false, x::next);
        x.put(0, 0, 1, 1);
        Checks.due("not due", false, x::next);
        Checks.badState("none was taken", () -> x.arrival(3));
        x.pass(1);
        Checks.due("still not", false, x::next);
        x.pass(1);
        Checks.due("due", true, x::next);
        Checks.due("taken", false, x::next);
        Checks.due("the one that was taken last", 1, () -> x.arrival(3));
        x.put(0, 0, 1, 2);
        Checks.due("due later", false, x::next);
        Checks.due("the one that was taken last", 1, () -> x.arrival(3));
        x.pass(100);
        Checks.due("long due", true, x::next);
        Checks.due("the other", 2, () -> x.arrival(3));
    }

    private static void nextTakesEarlierPutsFirst() {
        Bench x = Bench.with(100, 1);
        x.net(100, 3);
        x.net(100, 4);
        x.fates(0, 0b11_10, 2);
        x.put(2, 0, 1, 1);
        x.put(0, 0, 1, 2);
        x.put(0, 0, 1, 3);
        x.put(1, 0, 1, 4);
        x.pass(2);
        x.put(0, 0, 1, 5);
        x.pass(1);
        x.put(0, 0, 1, 6);
        Checks.due("all due", 7, () -> x.pass(1));
        arrives("at 1", x, 0, 2);
        arrives("at 3, the copy that was put first", x, 0, 2);
        arrives("at 3, of the slower net", x, 1, 4);
        arrives("at 3, put last", x, 0, 5);
        arrives("at 4, of the slowest net", x, 2, 1);
        arrives("at 4, the late one", x, 0, 3);
        arrives("at 4, put last", x, 0, 6);
        Checks.due("no more", false, x::next);
    }

    private static void arrival() {
        Bench x = Bench.with(100, 1);
        x.net(100, 2);
        for (int wrong : new int[] {Integer.MIN_VALUE, -1, 7, Integer.MAX_VALUE}) {
            Checks.badArgument("the argument comes first", () -> x.arrival(wrong));
        }
        for (int i = 0; i <= 6; i++) {
            int what = i;
            Checks.badState("none was taken", () -> x.arrival(what));
        }
        x.feedBytes(1, 83);
        x.put(1, 6, 5, -12345);
        x.pass(2);
        x.next();
        x.next();
        int[] due = {1, 6, 5, -12345, 80, 83, 3};
        for (int i = 0; i <= 6; i++) {
            int what = i;
            Checks.due("arrival(" + i + ")", due[i], () -> x.arrival(what));
        }
        for (int wrong : new int[] {Integer.MIN_VALUE, -1, 7, Integer.MAX_VALUE}) {
            Checks.badArgument("arrival(" + wrong + ")", () -> x.arrival(wrong));
        }
        for (int i = 0; i < 20; i++) {
            x.put(0, 0, 1, i);
        }
        x.link(0, false);
        x.link(1, false);
        for (int i = 0; i <= 6; i++) {
            int what = i;
            Checks.due("arrival(" + i + ") stays", due[i], () -> x.arrival(what));
        }
    }

    private static void byteAt() {
        Bench x = Bench.with(100, 1);
        Checks.badState("none was taken", () -> x.byteAt(0));
        Checks.badState("the state comes first", () -> x.byteAt(-1));
        Checks.badState("the state comes first", () -> x.byteAt(Integer.MAX_VALUE));
        x.put(0, 0, 1, 1);
        x.feed(0x00FF807FL, 4);
        x.put(0, 0, 1, 2);
        x.pass(1);
        x.next();
        Checks.badIndex("an empty one has no byte", () -> x.byteAt(0));
        x.next();
        int[] bytes = {0, 255, 128, 127};
        for (int i = 0; i < 4; i++) {
            int at = i;
            Checks.due("byte " + i, bytes[i], () -> x.byteAt(at));
        }
        for (int wrong : new int[] {Integer.MIN_VALUE, -1, 4, 1480, 4096, Integer.MAX_VALUE}) {
            Checks.badIndex("byteAt(" + wrong + ")", () -> x.byteAt(wrong));
        }
        x.feed(0x01020304, 4);
        Checks.due("feeding does not touch it", 255, () -> x.byteAt(1));
        x.put(0, 0, 1, 3);
        x.pass(1);
        Checks.due("nor does putting, or passing", 255, () -> x.byteAt(1));
        x.next();
        Checks.due("taking does", 2, () -> x.byteAt(1));
    }

    private static void underWay() {
        Bench x = Bench.with(100, 1);
        x.fates(0, 0b10_01_00, 3);
        int[] due = {1, 1, 3, 4};
        for (int i = 0; i < 4; i++) {
            x.put(0, 0, 1, i);
            Checks.due("after put " + i, due[i], x::underWay);
        }
        x.pass(10);
        Checks.due("those that are due count too", 4, x::underWay);
        x.next();
        Checks.due("the taken one does not", 3, x::underWay);
    }

    private static void roomForBothOrNeither() {
        Bench x = Bench.with(100, 10);
        x.net(100, 10);
        x.fill(0, 511);
        Checks.due("filled", 511, x::underWay);
        x.fates(0, 0b10, 1);
        Checks.due("a copied one", 0, () -> x.put(0, 0, 1, 1));
        Checks.due("has no room", 511, x::underWay);
        Checks.due("but took its fate", 0, () -> x.fated(0));
        x.put(1, 0, 1, 777);
        Checks.due("one has", 512, x::underWay);
        for (int fate = 0; fate < 4; fate++) {
            x.fates(1, fate, 1);
            x.put(1, 0, 1, 2);
            Checks.due("no room for fate " + fate, 512, x::underWay);
        }
        Checks.due("they were put", 5, () -> x.puts(1));
        Checks.due("and took their fates", 0, () -> x.fated(1));
        Checks.due("half of them and two more are due", 257, () -> x.pass(10));
        x.put(1, 0, 1, 3);
        Checks.due("those that are due take room", 512, x::underWay);
        arrives("the first", x, 0, 0);
        x.put(1, 0, 1, 888);
        Checks.due("room again", 512, x::underWay);
        Checks.due("the net goes down", 510, () -> x.link(0, false));
        x.fates(1, 0b10, 1);
        x.put(1, 0, 1, 999);
        Checks.due("room again for both", 4, x::underWay);
        Checks.due("pass", 4, () -> x.pass(30));
        for (int number : new int[] {777, 888, 999, 999}) {
            arrives("what was put on the other net", x, 1, number);
        }
        Checks.due("no more", false, x::next);
    }

    private static void roomForTheLastTwo() {
        Bench x = Bench.with(100, 10);
        x.fill(0, 510);
        Checks.due("filled", 510, x::underWay);
        x.fates(0, 0b10, 1);
        x.put(0, 0, 1, 1);
        Checks.due("both had room", 512, x::underWay);
    }

    private static void fated() {
        Bench x = Bench.with(100, 1);
        x.net(100, 1);
        for (int wrong : new int[] {Integer.MIN_VALUE, -1, 2, 24, Integer.MAX_VALUE}) {
            Checks.badArgument("fated(" + wrong + ")", () -> x.fated(wrong));
        }
        Checks.due("at first", 0, () -> x.fated(0));
        x.fates(0, 0, 3);
        Checks.due("three", 3, () -> x.fated(0));
        Checks.due("each net has its own", 0, () -> x.fated(1));
        x.put(1, 0, 1, 1);
        Checks.due("put on the other", 3, () -> x.fated(0));
        x.put(0, 0, 1, 1);
        Checks.due("put", 2, () -> x.fated(0));
        x.link(0, false);
        Checks.due("down", 2, () -> x.fated(0));
        x.put(0, 0, 1, 1);
        Checks.due("put, being down", 2, () -> x.fated(0));
        x.feedBytes(0, 240);
        x.link(0, true);
        x.put(0, 0, 1, 1);
        Checks.due("three pieces, two fates", 0, () -> x.fated(0));
    }

    private static void puts() {
        Bench x = Bench.with(100, 1);
        x.net(100, 1);
        for (int wrong : new int[] {Integer.MIN_VALUE, -1, 2, 24, Integer.MAX_VALUE}) {
            Checks.badArgument("puts(" + wrong + ")", () -> x.puts(wrong));
        }
        Checks.due("at first", 0, () -> x.puts(0));
        x.fates(0, 0b11_10_01_00, 4);
        for (int i = 1; i <= 4; i++) {
            x.put(0, 0, 1, i);
            int count = i;
            Checks.due("one a frame, whatever its fate", count, () -> x.puts(0));
        }
        Checks.due("each net has its own", 0, () -> x.puts(1));
        x.feedBytes(0, 240);
        x.put(0, 0, 1, 5);
        Checks.due("one a piece", 7, () -> x.puts(0));
        x.link(0, false);
        x.put(0, 0, 1, 6);
        Checks.due("those on a net that is down too", 8, () -> x.puts(0));
        x.pass(100);
        x.next();
        Checks.due("arrivals change nothing", 8, () -> x.puts(0));
    }
}
