/** Promise 17: overflow. */
public final class OverflowTest {
    public static void main(String[] args) {
        wrongOffices();
        choicesWithoutATrunkAreCounted();
        waysBackAreNotTried();
        onlyTrunksOverflow();
        Check.finish();
    }

    private static void wrongOffices() {
        CrossbarNet net = Scene.net();
        int[][] bad = {{-1, 0}, {3, 0}, {0, -1}, {0, 3}, {Integer.MIN_VALUE, 1}, {1, Integer.MAX_VALUE}};
        for (int[] ends : bad) {
            Check.badArgument("overflow(" + ends[0] + ", " + ends[1] + ")", net, () -> net.overflow(ends[0], ends[1]));
        }
    }

    private static void choicesWithoutATrunkAreCounted() {
        CrossbarNet net = Scene.net();
        net.out(2, true);
        Scene.call(net, 0, 0, "405");
        net.tick(1);
        Check.due("the first choice", net.overflow(0, 2), 1);
        Check.due("the second choice", net.overflow(0, 1), 0);
        Check.due("not the other way", net.overflow(2, 0), 0);
        Scene.call(net, 0, 1, "406");
        net.tick(1);
        Check.due("the first choice again", net.overflow(0, 2), 2);
        Check.due("the second choice too", net.overflow(0, 1), 1);
        Check.due("no way", net.tone(0, 1), CrossbarNet.CONGESTION);
        net.out(1, true);
        net.tick(2);
        Check.due("from office 1 on", net.overflow(1, 2), 1);
        Check.due("no way from there", net.tone(0, 0), CrossbarNet.CONGESTION);
    }

    private static void waysBackAreNotTried() {
        CrossbarNet net = new CrossbarNet();
        net.trunk(0, 1);
        net.trunk(0, 1);
        net.route(0, 14, 1, 0, 0);
        net.route(1, 14, 0, 0, 0);
        Scene.call(net, 0, 0, "405");
        net.tick(4);
        Check.due("not back to where it came from", net.tone(0, 0), CrossbarNet.CONGESTION);
        Check.due("which is no overflow", net.overflow(1, 0), 0);
        Check.due("all is idle", Scene.idles(net, 0), "3 12 5 2 0 0");
    }

    private static void onlyTrunksOverflow() {
        CrossbarNet net = Scene.net();
        for (int n = 0; n < 3; n++) {
            net.lift(2, n);
        }
        Scene.call(net, 0, 0, "405");
        net.tick(1);
        Check.due("no register there: the next choice", Scene.seizedBy(net, 0, 0), "30 0 5000 1030");
        Check.due("no overflow", net.overflow(0, 2), 0);
        Check.due("the trunk is idle", net.idle(2, 3), 2);
    }
}
