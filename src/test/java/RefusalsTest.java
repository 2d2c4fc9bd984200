import java.util.function.Supplier;

/**
 * "Of several exceptions the one named first is thrown; a call that throws changes nothing":
 * every way in which a call is refused, in several states, against a twin without that call.
 */
public final class RefusalsTest {
    private static final String ARGUMENT = "throws.IllegalArgumentException";
    private static final String STATE = "throws.IllegalStateException";
    private static final String INDEX = "throws.IndexOutOfBoundsException";
    private static final int LEAST = Integer.MIN_VALUE;
    private static final int MOST = Integer.MAX_VALUE;

    private interface Use {
        Object of(Bench bench);
    }

    public static void main(String[] args) {
        Checks.sentence("Of several exceptions the one named first is thrown");
        theOneNamedFirst();
        Checks.sentence("a call that throws changes nothing");
        inANewObject();
        amidARun();
        withFullSchedulesAndPayload();
        withAllArrivals();
        atTheLastTick();
        Checks.end();
    }

    private static void theOneNamedFirst() {
        Supplier<Bench> full = RefusalsTest::fullSchedulesAndPayload;
        Checks.due("net, 24 and a wrong largest", ARGUMENT, () -> told(full, x -> x.net(99, 1)));
        Checks.due("net, 24 and a wrong delay", ARGUMENT, () -> told(full, x -> x.net(100, 51)));
        Checks.due("net, 24", STATE, () -> told(full, x -> x.net(100, 50)));
        Checks.due("fates, 64 and no net", ARGUMENT, () -> told(full, x -> x.fates(24, 0, 1)));
        Checks.due("fates, 64 and n 0", ARGUMENT, () -> told(full, x -> x.fates(0, 0, 0)));
        Checks.due("fates, 64 and n 33", ARGUMENT, () -> told(full, x -> x.fates(0, 0, 33)));
        Checks.due("fates, 64", STATE, () -> told(full, x -> x.fates(0, 0, 32)));
        Checks.due("feed, 1480 and n 0", ARGUMENT, () -> told(full, x -> x.feed(0, 0)));
        Checks.due("feed, 1480 and n 9", ARGUMENT, () -> told(full, x -> x.feed(0, 9)));
        Checks.due("feed, 1480", STATE, () -> told(full, x -> x.feed(0, 8)));
        Checks.due("arrival, none and 7", ARGUMENT, () -> told(full, x -> x.arrival(7)));
        Checks.due("arrival, none and -1", ARGUMENT, () -> told(full, x -> x.arrival(-1)));
        Checks.due("arrival, none", STATE, () -> told(full, x -> x.arrival(6)));
        Checks.due("byteAt, none and -1", STATE, () -> told(full, x -> x.byteAt(-1)));
        Checks.due("byteAt, none and 0", STATE, () -> told(full, x -> x.byteAt(0)));
        Supplier<Bench> last = RefusalsTest::lastTick;
        Checks.due("pass, the last tick and 1001", ARGUMENT, () -> told(last, x -> x.pass(1001)));
        Checks.due("pass, the last tick and -1", ARGUMENT, () -> told(last, x -> x.pass(-1)));
        Checks.due("pass, the last tick", STATE, () -> told(last, x -> x.pass(1000)));
    }

    private static String told(Supplier<Bench> state, Use call) {
        Bench bench = state.get();
        return Checks.told(() -> call.of(bench));
    }

    /** The call is refused so, and all that follows is as if it had not been made. */
    private static void refused(String what, String exception, Supplier<Bench> state, Use call) {
        Bench touched = state.get();
        Bench twin = state.get();
        Checks.due(what, exception, () -> Checks.told(() -> call.of(touched)));
        Checks.same(what + ": what follows", follow(twin), follow(touched));
    }

    /** What an object answers from here on, to calls that come to all of its state. */
    private static String follow(Bench x) {
        StringBuilder all = new StringBuilder();
        tell(all, "underWay", x::underWay);
        tell(all, "due", () -> x.pass(0));
        tellArrival(all, x);
        for (int net : new int[] {0, 1, 2, 23, 24}) {
            tell(all, "fated", () -> x.fated(net));
            tell(all, "puts", () -> x.puts(net));
        }
        tell(all, "feed", () -> x.feed(0xFE, 1));
        tell(all, "fates", () -> x.fates(0, 0, 1));
        tell(all, "put", () -> x.put(0, 3, -1, 555));
        tell(all, "put", () -> x.put(1, 4, 2, 556));
        tell(all, "feed", () -> x.feed(0xFD, 1));
        tell(all, "underWay", x::underWay);
        for (int tick = 0; tick < 5; tick++) {
            tell(all, "pass", () -> x.pass(1));
            tell(all, "next", x::next);
            tellArrival(all, x);
        }
        tell(all, "link", () -> x.link(1, false));
        tell(all, "net", () -> x.net(100, 1));
        tell(all, "pass", () -> x.pass(1000));
        for (int i = 0; i < 6; i++) {
            tell(all, "next", x::next);
            tell(all, "number", () -> x.arrival(3));
        }
        tell(all, "underWay", x::underWay);
        return all.toString();
    }

    private static void tellArrival(StringBuilder all, Bench x) {
        for (int what : new int[] {0, 1, 2, 3, 4, 5, 6}) {
            tell(all, "arrival", () -> x.arrival(what));
        }
        tell(all, "byteAt", () -> x.byteAt(0));
        tell(all, "byteAt", () -> x.byteAt(2));
    }

    private static void tell(StringBuilder all, String name, Checks.Call call) {
        all.append(name).append(' ').append(Checks.told(call)).append("; ");
    }

    /** The calls whose arguments are wrong in every state with fewer than 25 nets. */
    private static void wrongArguments(String when, Supplier<Bench> state) {
        for (int wrong : new int[] {LEAST, -1, 24, MOST}) {
            String net = when + ", net " + wrong + ": ";
            refused(net + "link up", ARGUMENT, state, x -> x.link(wrong, true));
            refused(net + "link down", ARGUMENT, state, x -> x.link(wrong, false));
            refused(net + "fates", ARGUMENT, state, x -> x.fates(wrong, 1, 1));
            refused(net + "put", ARGUMENT, state, x -> x.put(wrong, 0, 1, 1));
            refused(net + "fated", ARGUMENT, state, x -> x.fated(wrong));
            refused(net + "puts", ARGUMENT, state, x -> x.puts(wrong));
        }
        for (int wrong : new int[] {LEAST, -1, 0, 33, MOST}) {
            refused(when + ": fates " + wrong, ARGUMENT, state, x -> x.fates(0, 1, wrong));
        }
        for (int wrong : new int[] {LEAST, -1, 0, 9, MOST}) {
            refused(when + ": feed " + wrong, ARGUMENT, state, x -> x.feed(1, wrong));
        }
        for (int wrong : new int[] {LEAST, -2, 8, MOST}) {
            refused(when + ": put from " + wrong, ARGUMENT, state, x -> x.put(0, wrong, 1, 1));
            refused(when + ": put for " + wrong, ARGUMENT, state, x -> x.put(0, 1, wrong, 1));
        }
        refused(when + ": put from -1", ARGUMENT, state, x -> x.put(0, -1, -1, 1));
        refused(when + ": put from 0 for 0", ARGUMENT, state, x -> x.put(0, 0, 0, 1));
        refused(when + ": put from 7 for 7", ARGUMENT, state, x -> x.put(0, 7, 7, 1));
        for (int wrong : new int[] {LEAST, -1, 1001, MOST}) {
            refused(when + ": pass " + wrong, ARGUMENT, state, x -> x.pass(wrong));
        }
        for (int wrong : new int[] {LEAST, -1, 7, MOST}) {
            refused(when + ": arrival " + wrong, ARGUMENT, state, x -> x.arrival(wrong));
        }
        for (int wrong : new int[] {LEAST, 99, 1501, MOST}) {
            refused(when + ": net for " + wrong, ARGUMENT, state, x -> x.net(wrong, 1));
        }
        for (int wrong : new int[] {LEAST, 0, 51, MOST}) {
            refused(when + ": net with delay " + wrong, ARGUMENT, state, x -> x.net(100, wrong));
        }
    }

    private static void inANewObject() {
        String when = "new";
        Supplier<Bench> state = Bench::new;
        wrongArguments(when, state);
        refused(when + ": link 0", ARGUMENT, state, x -> x.link(0, false));
        refused(when + ": fates 0", ARGUMENT, state, x -> x.fates(0, 0, 1));
        refused(when + ": put 0", ARGUMENT, state, x -> x.put(0, 0, 1, 1));
        refused(when + ": arrival", STATE, state, x -> x.arrival(0));
        refused(when + ": byteAt", STATE, state, x -> x.byteAt(0));
    }

    /** Two nets, one with fates left, arrivals due and not, one taken, and a payload begun. */
    private static Bench middle() {
        Bench x = Bench.with(100, 2);
        x.net(200, 3);
        x.fates(0, 0b11_10_01_00, 4);
        x.fates(1, 0b00_10_11, 3);
        x.feedBytes(10, 100);
        x.put(0, 2, 5, 1);
        x.feedBytes(30, 5);
        x.put(1, 6, -1, 2);
        x.put(0, 6, 0, 3);
        x.pass(2);
        x.put(1, 1, 0, 4);
        x.feedBytes(50, 7);
        x.next();
        return x;
    }

    private static void amidARun() {
        String when = "amid a run";
        Supplier<Bench> state = RefusalsTest::middle;
        wrongArguments(when, state);
        refused(when + ": net 2", ARGUMENT, state, x -> x.put(2, 0, 1, 1));
        refused(when + ": link 2", ARGUMENT, state, x -> x.link(2, false));
        for (int wrong : new int[] {LEAST, -1, 80, MOST}) {
            refused(when + ": byteAt " + wrong, INDEX, state, x -> x.byteAt(wrong));
        }
    }

    private static Bench fullSchedulesAndPayload() {
        Bench x = new Bench();
        for (int i = 0; i < 24; i++) {
            x.net(100 + i, 1 + i);
        }
        for (int net = 0; net < 2; net++) {
            x.fates(net, 0x1B1B1B1B1B1B1B1BL, 32);
            x.fates(net, 0xE4E4E4E4E4E4E4E4L, 32);
        }
        x.feedBytes(77, 1480);
        return x;
    }

    private static void withFullSchedulesAndPayload() {
        String when = "with 24 nets, 64 fates and 1480 bytes";
        Supplier<Bench> state = RefusalsTest::fullSchedulesAndPayload;
        wrongArguments(when, state);
        refused(when + ": net", STATE, state, x -> x.net(100, 1));
        for (int n : new int[] {1, 2, 31, 32}) {
            refused(when + ": fates " + n, STATE, state, x -> x.fates(0, -1, n));
        }
        for (int n : new int[] {1, 2, 7, 8}) {
            refused(when + ": feed " + n, STATE, state, x -> x.feed(-1, n));
        }
        refused(when + ": arrival", STATE, state, x -> x.arrival(0));
        refused(when + ": byteAt", STATE, state, x -> x.byteAt(0));
    }

    private static Bench allArrivals() {
        Bench x = Bench.with(100, 2);
        x.net(100, 2);
        x.feedBytes(1, 5);
        x.putEmpty(1, 1);
        x.pass(2);
        x.next();
        x.fill(0, 512);
        x.fates(0, 0, 32);
        x.feedBytes(1, 3);
        return x;
    }

    private static void withAllArrivals() {
        String when = "with 512 arrivals";
        Supplier<Bench> state = RefusalsTest::allArrivals;
        wrongArguments(when, state);
        for (int wrong : new int[] {LEAST, -1, 5, MOST}) {
            refused(when + ": byteAt " + wrong, INDEX, state, x -> x.byteAt(wrong));
        }
    }

    private static Bench lastTick() {
        Bench x = Bench.beyondItsPromise();
        x.net(100, 1);
        x.net(100, 2);
        for (int i = 0; i < 999; i++) {
            x.pass(1000);
        }
        x.pass(995);
        x.putEmpty(0, 1);
        x.pass(5);
        x.putEmpty(1, 2);
        return x;
    }

    private static void atTheLastTick() {
        String when = "at the last tick";
        Supplier<Bench> state = RefusalsTest::lastTick;
        wrongArguments(when, state);
        for (int n : new int[] {1, 2, 999, 1000}) {
            refused(when + ": pass " + n, STATE, state, x -> x.pass(n));
        }
        for (int n : new int[] {6, 7, 1000}) {
            Supplier<Bench> before = () -> {
                Bench x = Bench.beyondItsPromise();
                x.net(100, 1);
                for (int i = 0; i < 999; i++) {
                    x.pass(1000);
                }
                x.pass(995);
                x.putEmpty(0, 1);
                return x;
            };
            refused("five ticks before it: pass " + n, STATE, before, x -> x.pass(n));
        }
    }
}
