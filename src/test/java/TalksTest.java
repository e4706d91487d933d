/** Promise 13: talks. */
public final class TalksTest {
    public static void main(String[] args) {
        CrossbarNet fresh = new CrossbarNet();
        Check.badPlaces("talks", fresh, fresh::talks);
        onlyWhileBothAreThere();
        namesLinesOfAllOffices();
        laterCallsLeaveFormerPartnersAlone();
        Check.finish();
    }

    private static void onlyWhileBothAreThere() {
        CrossbarNet net = Scene.net();
        Scene.call(net, 0, 0, "205");
        net.tick(1);
        both(net, "ringing", CrossbarNet.NONE, CrossbarNet.NONE);
        net.lift(0, 5);
        both(net, "talking", 5, 0);
        Check.due("another line", net.talks(0, 1), CrossbarNet.NONE);
        net.hang(0, 5);
        both(net, "the called one has hung up", CrossbarNet.NONE, CrossbarNet.NONE);
        net.lift(0, 5);
        both(net, "it is back", 5, 0);
        net.hang(0, 0);
        both(net, "over", CrossbarNet.NONE, CrossbarNet.NONE);
    }

    private static void both(CrossbarNet net, String when, int caller, int called) {
        Check.due(when + ": the line that calls", net.talks(0, 0), caller);
        Check.due(when + ": the line called", net.talks(0, 5), called);
    }

    private static void namesLinesOfAllOffices() {
        CrossbarNet net = Scene.net();
        Scene.call(net, 2, 23, "323");
        net.tick(4);
        net.lift(1, 23);
        Check.due("a line of office 1", net.talks(2, 23), 47);
        Check.due("a line of office 2", net.talks(1, 23), 71);
    }

    private static void laterCallsLeaveFormerPartnersAlone() {
        CrossbarNet net = Scene.talkWithin();
        net.hang(0, 0);
        net.hang(0, 5);
        Scene.call(net, 0, 9, "205");
        net.tick(1);
        net.lift(0, 5);
        Scene.call(net, 0, 0, "9");
        Check.due("a call that fails", net.tone(0, 0), CrossbarNet.UNKNOWN);
        net.hang(0, 0);
        net.lift(0, 0);
        net.hang(0, 0);
        Check.due("talks on", net.talks(0, 5), 9);
        Check.due("tone", net.tone(0, 5), CrossbarNet.SILENCE);
    }
}
