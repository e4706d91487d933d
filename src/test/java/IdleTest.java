/** Promise 16: idle. */
public final class IdleTest {
    public static void main(String[] args) {
        CrossbarNet net = Scene.net();
        int[][] bad = {{-1, 0}, {3, 0}, {0, -1}, {0, 6}, {Integer.MAX_VALUE, 0}, {0, Integer.MIN_VALUE}};
        for (int[] ask : bad) {
            Check.badArgument("idle(" + ask[0] + ", " + ask[1] + ")", net, () -> net.idle(ask[0], ask[1]));
        }
        Check.due("at first", Scene.idles(net, 0), "3 12 5 2 0 0");
        for (int n = 0; n < 5; n++) {
            net.lift(0, n);
        }
        Check.due("two wait", Scene.idles(net, 0), "0 12 5 2 2 0");
        Scene.digits(net, 0, 0, "208");
        Scene.digits(net, 0, 1, "305");
        Scene.digits(net, 0, 2, "405");
        Check.due("three jobs", Scene.idles(net, 0), "0 12 5 2 2 3");
        net.tick(1);
        Check.due("one rings, one waits", Scene.idles(net, 0), "0 10 4 2 1 2");
        net.tick(1);
        Check.due("one is sending", Scene.idles(net, 0), "0 9 4 1 1 1");
        Check.due("to office 1", Scene.idles(net, 1), "2 12 5 1 0 0");
        net.tick(1);
        Check.due("two are sending", Scene.idles(net, 0), "0 8 4 0 1 0");
        net.tick(1);
        Check.due("one is there", Scene.idles(net, 1), "2 12 5 1 0 1");
        Check.due("the last one has a register", Scene.idles(net, 0), "0 8 4 0 0 0");
        net.tick(1);
        Check.due("one rings there", Scene.idles(net, 1), "3 11 5 1 0 0");
        Check.due("the other is there", Scene.idles(net, 2), "2 12 5 1 0 1");
        net.out(1, true);
        Check.due("a trunk that is out", net.idle(2, 3), 0);
        for (int n = 0; n < 5; n++) {
            net.hang(0, n);
        }
        Check.due("all is over", Scene.idles(net, 0), "3 12 5 2 0 0");
        Check.due("in office 1", Scene.idles(net, 1), "3 12 5 1 0 0");
        Check.due("in office 2", Scene.idles(net, 2), "3 12 5 1 0 0");
        Check.finish();
    }
}
