/** Promise 2: trunk. */
public final class TrunkTest {
    public static void main(String[] args) {
        CrossbarNet net = new CrossbarNet();
        int[][] bad = {{-1, 0}, {0, -1}, {3, 0}, {0, 3}, {0, 0}, {1, 1}, {2, 2}, {Integer.MAX_VALUE, 1}};
        for (int[] ends : bad) {
            Check.badArgument("trunk(" + ends[0] + ", " + ends[1] + ")", net, () -> net.trunk(ends[0], ends[1]));
        }
        for (int i = 0; i < 16; i++) {
            Check.due("trunk number", net.trunk(i % 3, (i + 1) % 3), i);
        }
        Check.badState("a 17th trunk", net, () -> net.trunk(0, 1));
        for (int[] ends : bad) {
            Check.badArgument("a 17th one, and no trunk", net, () -> net.trunk(ends[0], ends[1]));
        }
        Check.due("trunks of office 0", net.idle(0, 3), 11);
        Check.due("trunks of office 1", net.idle(1, 3), 11);
        Check.due("trunks of office 2", net.idle(2, 3), 10);
        trunksServeBothWays();
        Check.finish();
    }

    private static void trunksServeBothWays() {
        CrossbarNet net = new CrossbarNet();
        net.trunk(1, 0);
        net.route(0, 13, 1, 0, 0);
        net.route(1, 12, 0, 0, 0);
        Scene.call(net, 0, 0, "301");
        net.tick(1);
        Check.due("from the second end", net.seized(0, 0, 2), 5000);
        net.hang(0, 0);
        Scene.call(net, 1, 0, "201");
        net.tick(1);
        Check.due("from the first end", net.seized(1, 0, 2), 5000);
    }
}
