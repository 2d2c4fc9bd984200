import java.util.Random;
import java.util.Set;

/**
 * LANGUAGE.md's rule 7: "No call may ever throw by itself .. for any arguments in any state". So
 * the runs here go far behind the 512th call, where the answers are free but this rule still
 * holds: they come to the last tick and many times round every ring.
 */
public final class LongUseTest {
    private static final int RUNS = 40;
    private static final int CALLS = 50_000;

    private static final Set<String> NOTHING = Set.of();
    private static final Set<String> ARGUMENT = Set.of("throws.IllegalArgumentException");
    private static final Set<String> ARGUMENT_OR_STATE =
            Set.of("throws.IllegalArgumentException", "throws.IllegalStateException");
    private static final Set<String> STATE_OR_INDEX =
            Set.of("throws.IllegalStateException", "throws.IndexOutOfBoundsException");

    private final WireBench bench = new WireBench();
    private final Random random;
    // How often an argument is any int at all: in one of so many calls.
    private final int oneWildIn;
    private boolean lastTickSeen = false;
    private boolean fullSeen = false;

    private LongUseTest(int seed) {
        random = new Random(seed);
        oneWildIn = seed % 4 == 0 ? 1 : 40;
    }

    public static void main(String[] args) {
        Checks.sentence("No call may ever throw by itself");
        boolean lastTickSeen = false;
        boolean fullSeen = false;
        for (int run = 0; run < RUNS; run++) {
            LongUseTest test = new LongUseTest(run);
            for (int i = 0; i < CALLS; i++) {
                test.call();
            }
            lastTickSeen |= test.lastTickSeen;
            fullSeen |= test.fullSeen;
        }
        // The runs are worth something only if they come that far.
        Checks.same("a run came to the last tick", "true", String.valueOf(lastTickSeen));
        Checks.same("a run came to 512 arrivals", "true", String.valueOf(fullSeen));
        Checks.end();
    }

    private int some(int first, int last) {
        if (random.nextInt(oneWildIn) == 0) {
            return random.nextBoolean() ? random.nextInt()
                    : random.nextBoolean() ? Integer.MIN_VALUE : Integer.MAX_VALUE;
        }
        return first - 1 + random.nextInt(last - first + 3);
    }

    private String fine(String name, Set<String> allowed, Checks.Call call) {
        String told = Checks.told(call);
        boolean isFine = !told.startsWith("throws.") || allowed.contains(told);
        Checks.same(name + " (" + told + ")", "true", String.valueOf(isFine));
        return told;
    }

    private void call() {
        int net = some(0, 23);
        long bits = random.nextLong();
        switch (random.nextInt(14)) {
            case 0:
                fine("net", ARGUMENT_OR_STATE, () -> bench.net(some(100, 1500), some(1, 50)));
                break;
            case 1:
                // Seldom down, so that the arrivals come to be as many as can be.
                fine("link", ARGUMENT, () -> bench.link(net, random.nextInt(50) > 0));
                break;
            case 2:
                fine("fates", ARGUMENT_OR_STATE, () -> bench.fates(net, bits, some(1, 32)));
                break;
            case 3:
            case 4:
                fine("feed", ARGUMENT_OR_STATE, () -> bench.feed(bits, some(1, 8)));
                break;
            case 5:
            case 6:
                fine("put", ARGUMENT, () -> bench.put(net, some(0, 7), some(-1, 7), some(0, 9)));
                break;
            case 7:
                callPass();
                break;
            case 8:
                fine("next", NOTHING, bench::next);
                break;
            case 9:
                fine("arrival", ARGUMENT_OR_STATE, () -> bench.arrival(some(0, 6)));
                break;
            case 10:
                fine("byteAt", STATE_OR_INDEX, () -> bench.byteAt(some(0, 1479)));
                break;
            case 11:
                fullSeen |= fine("underWay", NOTHING, bench::underWay).equals("512");
                break;
            case 12:
                fine("fated", ARGUMENT, () -> bench.fated(net));
                break;
            default:
                fine("puts", ARGUMENT, () -> bench.puts(net));
                break;
        }
    }

    private void callPass() {
        String told = fine("pass", ARGUMENT_OR_STATE, () -> bench.pass(some(0, 1000)));
        lastTickSeen |= told.equals("throws.IllegalStateException");
    }
}
