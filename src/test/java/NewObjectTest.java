/** Promise 1: a new object. */
public final class NewObjectTest {
    public static void main(String[] args) {
        allIsIdle();
        nothingIsSetUp();
        objectsAreApart();
        Check.finish();
    }

    private static void allIsIdle() {
        CrossbarNet net = new CrossbarNet();
        for (int o = 0; o < Scene.OFFICES; o++) {
            Check.due("idle of " + o, Scene.idles(net, o), "3 12 5 0 0 0");
            for (int n = 0; n < Scene.LINES; n++) {
                Check.due("tone", net.tone(o, n), CrossbarNet.SILENCE);
                Check.due("rings", net.rings(o, n), false);
                Check.due("talks", net.talks(o, n), CrossbarNet.NONE);
                Check.due("meter", net.meter(o, n), 0);
                Check.due("seized", net.seized(o, n, 0), CrossbarNet.NONE);
            }
        }
    }

    private static void nothingIsSetUp() {
        CrossbarNet net = new CrossbarNet();
        Check.badArgument("out of a trunk that is not there", net, () -> net.out(0, true));
        Check.due("the first trunk", net.trunk(2, 0), 0);
        net.lift(1, 23);
        Check.due("dial without routes", net.dial(1, 23, 0), true);
        Check.due("no digit can become a prefix", net.tone(1, 23), CrossbarNet.UNKNOWN);
        for (int hunt = 0; hunt < 4; hunt++) {
            Check.due("the first line of a hunt", net.hunt(0, hunt, hunt), 1);
        }
    }

    private static void objectsAreApart() {
        CrossbarNet one = Scene.talkWithin();
        CrossbarNet other = new CrossbarNet();
        Check.due("meter of one", one.meter(0, 0), 1);
        Check.due("meter of the other", other.meter(0, 0), 0);
        other.lift(0, 0);
        Check.due("seized of the other", other.seized(0, 0, 0), 30);
        Check.due("seized of one", Scene.seizedBy(one, 0, 0), "0 20 1");
    }
}
