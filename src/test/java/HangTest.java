/** Promise 6: hang. */
public final class HangTest {
    public static void main(String[] args) {
        Check.badPlaces("hang", new CrossbarNet(), (office, line) -> new CrossbarNet().hang(office, line));
        whatIsOnTheHookStaysThere();
        theCallerEndsItsCallAtEachStage();
        theCalledLineMayComeBack();
        tonesAndWaitingGo();
        Check.finish();
    }

    private static void whatIsOnTheHookStaysThere() {
        CrossbarNet net = Scene.net();
        Check.badState("on the hook at first", net, () -> net.hang(0, 0));
        Scene.call(net, 0, 0, "205");
        net.tick(1);
        Check.badState("a line that rings", net, () -> net.hang(0, 5));
        net.hang(0, 0);
        Check.badState("hung up twice", net, () -> net.hang(0, 0));
    }

    private static void theCallerEndsItsCallAtEachStage() {
        for (int ticks = -3; ticks <= 8; ticks++) {
            CrossbarNet net = Scene.net();
            String fresh = Scene.stateOf(net);
            net.lift(0, 0);
            if (ticks >= -2) {
                Scene.digits(net, 0, 0, "3");
            }
            if (ticks >= -1) {
                Scene.digits(net, 0, 0, "05");
            }
            for (int i = 0; i < ticks; i++) {
                net.tick(1);
            }
            net.hang(0, 0);
            Check.due("all is as at first, after ticks " + ticks, Scene.stateOf(net), fresh);
            net.tick(30);
            Check.due("and stays so, after ticks " + ticks, Scene.stateOf(net), fresh);
        }
        CrossbarNet net = Scene.talkOverTrunk();
        net.hang(0, 0);
        Check.due("tone of the called line", net.tone(1, 5), CrossbarNet.BUSY);
        Check.due("tone of the line that hung up", net.tone(0, 0), CrossbarNet.SILENCE);
        Check.due("trunks", net.idle(0, 3), 2);
        Check.due("links there", net.idle(1, 1), 12);
        net.tick(50);
        Check.due("until it hangs up", net.tone(1, 5), CrossbarNet.BUSY);
        net.hang(1, 5);
        Check.due("then silence", net.tone(1, 5), CrossbarNet.SILENCE);
    }

    private static void theCalledLineMayComeBack() {
        CrossbarNet net = Scene.talkWithin();
        net.hang(0, 5);
        Check.due("the caller hears nothing", net.tone(0, 0), CrossbarNet.SILENCE);
        Check.due("what is seized stays", Scene.seizedBy(net, 0, 0), "0 20 1");
        Scene.call(net, 0, 9, "205");
        net.tick(1);
        Check.due("the line is not free", net.tone(0, 9), CrossbarNet.BUSY);
        net.tick(10);
        Check.due("the eleventh tick", net.seized(0, 0, 0), 0);
        net.tick(1);
        Check.due("the twelfth tick", net.seized(0, 0, 0), CrossbarNet.NONE);
        Check.due("tone of the caller", net.tone(0, 0), CrossbarNet.BUSY);
        Check.due("tone of the called line", net.tone(0, 5), CrossbarNet.SILENCE);
        net.hang(0, 9);
        Scene.call(net, 0, 9, "205");
        net.tick(1);
        Check.due("now it is free", net.rings(0, 5), true);
        CrossbarNet other = Scene.talkWithin();
        other.hang(0, 5);
        other.hang(0, 0);
        Check.due("both hung up", other.idle(0, 1), 12);
    }

    private static void tonesAndWaitingGo() {
        CrossbarNet net = Scene.net();
        for (int n = 0; n < 5; n++) {
            net.lift(0, n);
        }
        net.hang(0, 3);
        Check.due("waits no more", net.idle(0, 4), 1);
        net.hang(0, 0);
        net.tick(1);
        Check.due("the other one has a register", net.tone(0, 4), CrossbarNet.DIAL);
        Check.due("this one has none", net.tone(0, 3), CrossbarNet.SILENCE);
        Scene.digits(net, 0, 4, "9");
        Check.due("fails", net.tone(0, 4), CrossbarNet.UNKNOWN);
        net.hang(0, 4);
        Check.due("its tone is gone", net.tone(0, 4), CrossbarNet.SILENCE);
    }
}
