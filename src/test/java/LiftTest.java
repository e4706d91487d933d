/** Promise 5: lift. */
public final class LiftTest {
    public static void main(String[] args) {
        Check.badPlaces("lift", new CrossbarNet(), (office, line) -> new CrossbarNet().lift(office, line));
        firstRegisterOrWaiting();
        nobodyPassesThoseWhoWait();
        liftingWhatRings();
        liftingAgainTalksOn();
        theCallerOfAHeldCallComesBack();
        Check.finish();
    }

    private static void firstRegisterOrWaiting() {
        CrossbarNet net = Scene.net();
        for (int n = 0; n < 3; n++) {
            net.lift(0, n);
            Check.due("register", Scene.seizedBy(net, 0, n), String.valueOf(30 + n));
            Check.due("tone", net.tone(0, n), CrossbarNet.DIAL);
        }
        Check.badState("lifted twice", net, () -> net.lift(0, 0));
        net.lift(0, 3);
        Check.badState("waiting, lifted twice", net, () -> net.lift(0, 3));
        Check.due("tone of one that waits", net.tone(0, 3), CrossbarNet.SILENCE);
        Check.due("what it has seized", net.seized(0, 3, 0), CrossbarNet.NONE);
        net.lift(1, 3);
        Check.due("another office", Scene.seizedBy(net, 1, 3), "1030");
        net.hang(0, 3);
        net.hang(0, 1);
        net.lift(0, 9);
        Check.due("the first idle one", Scene.seizedBy(net, 0, 9), "31");
    }

    private static void nobodyPassesThoseWhoWait() {
        CrossbarNet net = Scene.net();
        for (int n = 5; n > 0; n--) {
            net.lift(2, n);
        }
        net.hang(2, 4);
        net.hang(2, 5);
        net.lift(2, 0);
        Check.due("registers are idle", net.idle(2, 0), 2);
        Check.due("all others wait", net.idle(2, 4), 3);
        net.tick(1);
        Check.due("the longest waiting one", Scene.seizedBy(net, 2, 2), "2030");
        Check.due("the next one", Scene.seizedBy(net, 2, 1), "2031");
        Check.due("the last one waits on", net.idle(2, 4), 1);
        Check.due("its tone", net.tone(2, 0), CrossbarNet.SILENCE);
    }

    private static void liftingWhatRings() {
        CrossbarNet net = Scene.net();
        Scene.call(net, 0, 0, "205");
        net.tick(1);
        net.lift(0, 5);
        Check.due("rings no more", net.rings(0, 5), false);
        Check.due("talks", net.talks(0, 5), 0);
        Check.due("no register for it", net.idle(0, 0), 3);
        Check.due("tone of the called one", net.tone(0, 5), CrossbarNet.SILENCE);
        Check.due("tone of the calling one", net.tone(0, 0), CrossbarNet.SILENCE);
        Check.badState("lifted while talking", net, () -> net.lift(0, 5));
    }

    private static void liftingAgainTalksOn() {
        CrossbarNet net = Scene.talkWithin();
        net.hang(0, 5);
        net.tick(11);
        net.lift(0, 5);
        Check.due("talks on", net.talks(0, 0), 5);
        Check.due("is not charged anew", net.meter(0, 0), 1);
        net.hang(0, 5);
        net.tick(11);
        Check.due("ticks are counted anew", net.tone(0, 0), CrossbarNet.SILENCE);
        net.tick(1);
        Check.due("the twelfth", net.tone(0, 0), CrossbarNet.BUSY);
        net.lift(0, 5);
        Check.due("then it is a new call", net.tone(0, 5), CrossbarNet.DIAL);
    }

    private static void theCallerOfAHeldCallComesBack() {
        CrossbarNet net = Scene.talkOverTrunk();
        net.hold(1, 5, true);
        net.hang(0, 0);
        net.lift(0, 0);
        Check.due("no register for it", net.idle(0, 0), 3);
        Check.due("tone", net.tone(0, 0), CrossbarNet.SILENCE);
        Check.due("talks", net.talks(0, 0), 24 + 5);
        Check.due("not charged anew", net.meter(0, 0), 3);
    }
}
