/** Promise 10: hold. */
public final class HoldTest {
    public static void main(String[] args) {
        whoCanBeHeld();
        theCallerHangsUp();
        theCallerComesBack();
        theCalledLineHangsUp();
        Check.finish();
    }

    private static void whoCanBeHeld() {
        CrossbarNet net = Scene.net();
        Check.badPlaces("hold", net, (office, line) -> net.hold(office, line, true));
        Check.due("on the hook", net.hold(0, 0, true), false);
        Scene.call(net, 0, 0, "205");
        Check.due("dialling", net.hold(0, 0, true), false);
        net.tick(1);
        Check.due("rings", net.hold(0, 5, true), false);
        Check.due("ringback", net.hold(0, 0, true), false);
        net.lift(0, 5);
        Check.due("talks, but calls", net.hold(0, 0, true), false);
        Check.due("talks", net.hold(0, 5, true), true);
        Check.due("again", net.hold(0, 5, true), true);
        Check.due("no longer", net.hold(0, 5, false), true);
        Check.due("again no longer", net.hold(0, 5, false), true);
        Check.due("it talks on", net.talks(0, 5), 0);
        net.hang(0, 5);
        Check.due("has hung up for now", net.hold(0, 5, true), true);
        net.hold(0, 5, false);
        net.tick(12);
        Check.due("over", net.hold(0, 5, true), false);
    }

    private static void theCallerHangsUp() {
        CrossbarNet net = Scene.talkOverTrunk();
        net.hold(1, 5, true);
        net.hang(0, 0);
        Check.due("talks", net.talks(0, 0), CrossbarNet.NONE);
        Check.due("the call stays", Scene.seizedBy(net, 0, 0), "0 5000 1000");
        Check.due("tone of the line called", net.tone(1, 5), CrossbarNet.SILENCE);
        net.tick(50);
        Check.due("for long", Scene.seizedBy(net, 0, 0), "0 5000 1000");
        Scene.call(net, 0, 1, "200");
        net.tick(1);
        Check.due("the line that called is not free", net.tone(0, 1), CrossbarNet.BUSY);
        Check.due("no longer", net.hold(1, 5, false), true);
        Check.due("over", net.seized(0, 0, 0), CrossbarNet.NONE);
        Check.due("tone of the line called, then", net.tone(1, 5), CrossbarNet.BUSY);
        Check.due("tone of the line that called", net.tone(0, 0), CrossbarNet.SILENCE);
    }

    private static void theCallerComesBack() {
        CrossbarNet net = Scene.talkOverTrunk();
        net.hold(1, 5, true);
        net.hang(0, 0);
        net.lift(0, 0);
        net.hold(1, 5, false);
        Check.due("it has lifted before", net.talks(1, 5), 0);
        net.hang(0, 0);
        Check.due("not held any more: over", net.tone(1, 5), CrossbarNet.BUSY);
        net.hang(1, 5);
        Scene.call(net, 0, 0, "305");
        net.tick(4);
        net.lift(1, 5);
        net.hang(0, 0);
        Check.due("the next call is not held", net.tone(1, 5), CrossbarNet.BUSY);
    }

    private static void theCalledLineHangsUp() {
        CrossbarNet net = Scene.talkWithin();
        net.hang(0, 5);
        net.tick(7);
        net.hold(0, 5, true);
        net.tick(100);
        Check.due("ticks are not counted", net.seized(0, 0, 0), 0);
        net.hold(0, 5, false);
        net.tick(4);
        Check.due("eleven", net.seized(0, 0, 0), 0);
        net.tick(1);
        Check.due("twelve", net.tone(0, 0), CrossbarNet.BUSY);

        CrossbarNet both = Scene.talkWithin();
        both.hold(0, 5, true);
        both.hang(0, 5);
        both.hang(0, 0);
        both.tick(100);
        Check.due("both hung up, held", both.idle(0, 1), 10);
        both.lift(0, 5);
        Check.due("one of them is back", both.talks(0, 5), CrossbarNet.NONE);
        both.lift(0, 0);
        Check.due("both are back", both.talks(0, 5), 0);
    }
}
