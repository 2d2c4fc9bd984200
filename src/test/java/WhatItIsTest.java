/** The document's first sentence, part by part, and that objects know nothing of one another. */
public final class WhatItIsTest {
    private static final int LOST = 1;
    private static final int COPIED = 2;
    private static final int LATE = 3;

    public static void main(String[] args) {
        arrivesWhenTheDelaySays();
        scheduleLosesCopiesOrLetsBeOvertaken();
        scheduleIsOfThatNet();
        tooLargeGoInPieces();
        whatIsOnANetThatFailsIsLost();
        objectsShareNothing();
        Checks.end();
    }

    /** Takes all that is due: the numbers, in the order in which they come. */
    private static String numbers(Bench x) {
        StringBuilder all = new StringBuilder();
        while (x.next()) {
            all.append(x.arrival(3)).append(' ');
        }
        return all.toString();
    }

    private static void arrivesWhenTheDelaySays() {
        Checks.sentence("each arrives when its net's delay says");
        Bench x = Bench.with(100, 50);
        x.net(1500, 1);
        x.net(700, 20);
        x.putEmpty(0, 50);
        x.putEmpty(1, 1);
        x.putEmpty(2, 20);
        String[] due = {"", "1 ", "", "20 ", "", "50 ", ""};
        int[] ticks = {0, 1, 18, 1, 29, 1, 1000};
        for (int i = 0; i < due.length; i++) {
            x.pass(ticks[i]);
            Checks.due("behind " + ticks[i] + " more", due[i], () -> numbers(x));
        }
    }

    private static void scheduleLosesCopiesOrLetsBeOvertaken() {
        Checks.sentence("unless the schedule of that net .. loses it, copies it or lets it be "
                + "overtaken");
        String[] due = {"1 2 ", "2 ", "1 2 1 ", "2 1 "};
        for (int fate = 0; fate <= LATE; fate++) {
            Bench x = Bench.with(100, 5);
            x.fates(0, fate, 1);
            x.putEmpty(0, 1);
            x.pass(1);
            x.putEmpty(0, 2);
            x.pass(1000);
            Checks.due("fate " + fate, due[fate], () -> numbers(x));
        }
    }

    private static void scheduleIsOfThatNet() {
        Checks.sentence("the schedule of that net");
        Bench x = Bench.with(100, 5);
        x.net(100, 5);
        x.net(100, 5);
        x.fates(0, LOST, 1);
        x.fates(1, COPIED, 1);
        for (int net = 2; net >= 0; net--) {
            x.putEmpty(net, net);
        }
        x.pass(1000);
        Checks.due("each frame met the fate of its own net", "2 1 1 ", () -> numbers(x));
    }

    private static void tooLargeGoInPieces() {
        Checks.sentence("frames that are too large go in pieces");
        Bench x = Bench.with(100, 5);
        x.net(200, 5);
        int[][] netAndPieces = {{0, 3}, {1, 0}};
        for (int[] one : netAndPieces) {
            x.feedBytes(0, 180);
            Checks.due("on net " + one[0], one[1], () -> x.put(one[0], 0, 1, one[0]));
        }
        x.pass(5);
        Checks.due("three pieces and a whole", "0 0 0 1 ", () -> numbers(x));
    }

    private static void whatIsOnANetThatFailsIsLost() {
        Checks.sentence("what is on a net that fails is lost");
        for (int failing = 0; failing < 3; failing++) {
            int net = failing;
            Bench x = Bench.with(100, 5);
            x.net(100, 5);
            x.net(100, 5);
            for (int number = 0; number < 3; number++) {
                x.putEmpty(number, number);
            }
            Checks.due("the net fails", 1, () -> x.link(net, false));
            x.putEmpty(net, 3);
            x.link(net, true);
            x.putEmpty(net, 4);
            x.pass(1000);
            String[] due = {"1 2 4 ", "0 2 4 ", "0 1 4 "};
            Checks.due("what was on the others, or put later", due[net], () -> numbers(x));
        }
    }

    private static void objectsShareNothing() {
        Checks.sentence("A new object: No nets; time is 0");
        Bench one = Bench.with(100, 5);
        one.feedBytes(1, 3);
        one.fates(0, COPIED, 1);
        Bench other = new Bench();
        Checks.badArgument("no net", () -> other.puts(0));
        other.net(100, 5);
        Checks.due("no fate", 0, () -> other.fated(0));
        Checks.due("nothing was fed", 2, () -> other.feed(0x0908, 2));
        one.put(0, 0, 1, 1);
        Checks.due("nothing was put", 0, () -> other.puts(0));
        Checks.due("nothing is under way", 0, other::underWay);
        other.put(0, 2, 3, 2);
        Checks.due("time goes by for one", 1, () -> one.pass(5));
        Checks.due("not for the other", 0, () -> other.pass(0));
        one.next();
        Checks.badState("none was taken", () -> other.arrival(3));
        Checks.due("the one's", "1 3 1", () -> one.arrival(3) + " " + one.arrival(6) + " "
                + one.byteAt(0));
        Checks.due("a net goes down", 1, () -> other.link(0, false));
        Checks.due("the one's copy is under way", 1, one::underWay);
    }
}
