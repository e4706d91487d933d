/** Promises 11 and 12: tone and rings. */
public final class ToneTest {
    public static void main(String[] args) {
        CrossbarNet fresh = new CrossbarNet();
        Check.badPlaces("tone", fresh, fresh::tone);
        Check.badPlaces("rings", fresh, fresh::rings);
        fromLiftingToTalking();
        eachFailureHasItsTone();
        ringingEndsWithTheCall();
        Check.finish();
    }

    private static void fromLiftingToTalking() {
        CrossbarNet net = Scene.net();
        Check.due("on the hook", net.tone(0, 0), CrossbarNet.SILENCE);
        net.lift(0, 0);
        Check.due("with a register", net.tone(0, 0), CrossbarNet.DIAL);
        Scene.digits(net, 0, 0, "3");
        Check.due("behind the first digit", net.tone(0, 0), CrossbarNet.SILENCE);
        Scene.digits(net, 0, 0, "05");
        for (int tick = 1; tick <= 3; tick++) {
            net.tick(1);
            Check.due("sending", net.tone(0, 0), CrossbarNet.SILENCE);
            Check.due("rings so far", net.rings(1, 5), false);
        }
        net.tick(1);
        Check.due("ringing", net.tone(0, 0), CrossbarNet.RINGBACK);
        Check.due("rings", net.rings(1, 5), true);
        Check.due("the line that calls rings", net.rings(0, 0), false);
        Check.due("the same line elsewhere rings", net.rings(0, 5), false);
        Check.due("tone of what rings", net.tone(1, 5), CrossbarNet.SILENCE);
        net.tick(100);
        Check.due("it rings on", net.rings(1, 5), true);
        net.lift(1, 5);
        Check.due("talking", net.tone(0, 0), CrossbarNet.SILENCE);
        Check.due("talking, called", net.tone(1, 5), CrossbarNet.SILENCE);
        Check.due("rings no more", net.rings(1, 5), false);
    }

    private static void eachFailureHasItsTone() {
        failure("a line above 23", "224", CrossbarNet.UNKNOWN);
        failure("line 99", "299", CrossbarNet.UNKNOWN);
        failure("itself", "200", CrossbarNet.BUSY);
        failure("a line that is lifted", "201", CrossbarNet.BUSY);
        failure("a line that rings", "209", CrossbarNet.BUSY);
        failure("a line that calls", "208", CrossbarNet.BUSY);
        failure("line 23", "223", CrossbarNet.RINGBACK);
    }

    private static void failure(String what, String digits, int tone) {
        CrossbarNet net = Scene.net();
        net.lift(0, 1);
        Scene.call(net, 0, 8, "209");
        net.tick(1);
        Scene.call(net, 0, 0, digits);
        net.tick(1);
        Check.due(what, net.tone(0, 0), tone);
        net.tick(100);
        Check.due(what + ", later", net.tone(0, 0), tone);
        Check.due(what + ": its register", net.idle(0, 0), 3);
    }

    private static void ringingEndsWithTheCall() {
        CrossbarNet net = Scene.net();
        Scene.call(net, 0, 0, "205");
        net.tick(1);
        net.hang(0, 0);
        Check.due("rings no more", net.rings(0, 5), false);
        net.lift(0, 5);
        Check.due("lifting it is a new call", net.tone(0, 5), CrossbarNet.DIAL);
    }
}
