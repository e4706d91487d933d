/** Promise 9: out. */
public final class OutTest {
    public static void main(String[] args) {
        answersWhetherItWas();
        aCallThatHasItIsOver();
        aTrunkThatIsOutIsNotSeized();
        aHeldCallWithoutItsCaller();
        whatWasHeldIsNotHeldInTheNextCall();
        Check.finish();
    }

    private static void answersWhetherItWas() {
        CrossbarNet net = Scene.net();
        for (int trunk : new int[] {-1, 3, 15, 16, Integer.MIN_VALUE, Integer.MAX_VALUE}) {
            Check.badArgument("out(" + trunk + ")", net, () -> net.out(trunk, true));
        }
        Check.due("not out at first", net.out(1, false), false);
        Check.due("out now", net.out(1, true), false);
        Check.due("it was", net.out(1, true), true);
        Check.due("other trunks", net.idle(0, 3), 2);
        Check.due("trunks there", net.idle(1, 3), 1);
        Check.due("no longer", net.out(1, false), true);
        Check.due("it was not", net.out(1, false), false);
        Check.due("idle again", net.idle(1, 3), 2);
    }

    private static void aCallThatHasItIsOver() {
        for (int ticks = 1; ticks <= 4; ticks++) {
            CrossbarNet net = Scene.net();
            Scene.call(net, 0, 0, "305");
            net.tick(ticks);
            net.out(0, false);
            net.out(1, true);
            Check.due("not by this, ticks " + ticks, net.seized(0, 0, ticks < 3 ? 2 : 1), 5000);
            net.out(0, true);
            Check.due("tone, ticks " + ticks, net.tone(0, 0), CrossbarNet.CONGESTION);
            Check.due("the line called rings no more", net.rings(1, 5), false);
            Check.due("idle here", Scene.idles(net, 0), "3 12 5 1 0 0");
            Check.due("idle there", Scene.idles(net, 1), "3 12 5 0 0 0");
            net.tick(5);
            Check.due("tone stays", net.tone(0, 0), CrossbarNet.CONGESTION);
            net.hang(0, 0);
            Check.due("until it hangs up", net.tone(0, 0), CrossbarNet.SILENCE);
        }
        CrossbarNet net = Scene.talkOverTrunk();
        net.out(0, true);
        Check.due("tone of the line that calls", net.tone(0, 0), CrossbarNet.CONGESTION);
        Check.due("tone of the line called", net.tone(1, 5), CrossbarNet.BUSY);
        Check.due("talks", net.talks(0, 0), CrossbarNet.NONE);
    }

    private static void aTrunkThatIsOutIsNotSeized() {
        CrossbarNet net = Scene.net();
        net.trunk(0, 1);
        net.out(0, true);
        Scene.call(net, 0, 0, "305");
        net.tick(1);
        Check.due("the next one", net.seized(0, 0, 2), 5003);
        net.hang(0, 0);
        net.out(0, false);
        Scene.call(net, 0, 0, "305");
        net.tick(1);
        Check.due("the first one again", net.seized(0, 0, 2), 5000);
    }

    private static void aHeldCallWithoutItsCaller() {
        CrossbarNet net = Scene.talkOverTrunk();
        net.hold(1, 5, true);
        net.hang(0, 0);
        net.out(0, true);
        Check.due("on the hook: silence", net.tone(0, 0), CrossbarNet.SILENCE);
        Check.due("tone of the line called", net.tone(1, 5), CrossbarNet.BUSY);
        Check.due("hold", net.hold(1, 5, true), false);
        net.lift(0, 0);
        Check.due("a new call", net.tone(0, 0), CrossbarNet.DIAL);
    }

    private static void whatWasHeldIsNotHeldInTheNextCall() {
        CrossbarNet net = Scene.talkOverTrunk();
        net.hold(1, 5, true);
        net.out(0, true);
        net.out(0, false);
        net.hang(0, 0);
        net.hang(1, 5);
        Scene.call(net, 0, 0, "305");
        net.tick(4);
        net.lift(1, 5);
        net.hang(0, 0);
        Check.due("over", net.tone(1, 5), CrossbarNet.BUSY);
    }
}
