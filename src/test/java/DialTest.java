/** Promise 7: dial. */
public final class DialTest {
    public static void main(String[] args) {
        refusesWrongCalls();
        aRegisterTakesDigits();
        whatCannotBecomeAPrefixFails();
        noRegisterTakesThem();
        aDigitIsWaitedForTwentyTicks();
        Check.finish();
    }

    private static void refusesWrongCalls() {
        CrossbarNet net = Scene.net();
        Check.badPlaces("dial", net, (office, line) -> net.dial(office, line, 0));
        Check.badState("on the hook", net, () -> net.dial(0, 0, 2));
        Check.badArgument("argument before state", net, () -> net.dial(0, 0, 10));
        net.lift(0, 0);
        for (int digit : new int[] {-1, 10, Integer.MIN_VALUE, Integer.MAX_VALUE}) {
            Check.badArgument("digit " + digit, net, () -> net.dial(0, 0, digit));
        }
        Scene.digits(net, 0, 0, "205");
        net.tick(1);
        Check.badState("a line that rings", net, () -> net.dial(0, 5, 1));
    }

    private static void aRegisterTakesDigits() {
        CrossbarNet net = new CrossbarNet();
        net.route(0, 1234, 0, 0, 0);
        net.lift(0, 0);
        for (int digit : new int[] {2, 3, 4, 0}) {
            Check.due("a digit", net.dial(0, 0, digit), true);
            Check.due("tone behind it", net.tone(0, 0), CrossbarNet.SILENCE);
            Check.due("no job so far", net.idle(0, 5), 0);
        }
        Check.due("the last digit", net.dial(0, 0, 9), true);
        Check.due("a job", net.idle(0, 5), 1);
        Check.due("one digit too many", net.dial(0, 0, 9), false);
        Check.due("still one job", net.idle(0, 5), 1);
        net.tick(1);
        Check.due("line 9", net.rings(0, 9), true);
    }

    private static void whatCannotBecomeAPrefixFails() {
        CrossbarNet net = new CrossbarNet();
        net.route(0, 1234, 0, 0, 0);
        Scene.call(net, 0, 0, "23");
        Check.due("can become a prefix", net.seized(0, 0, 0), 30);
        Scene.digits(net, 0, 0, "5");
        Check.due("can't any more", net.tone(0, 0), CrossbarNet.UNKNOWN);
        Check.due("its register is idle", net.idle(0, 0), 3);
        Check.due("nothing is seized", net.seized(0, 0, 0), CrossbarNet.NONE);
        net.tick(100);
        Check.due("until it hangs up", net.tone(0, 0), CrossbarNet.UNKNOWN);
        Scene.call(net, 0, 1, "2");
        net.route(0, 129, 0, 0, 0);
        Scene.digits(net, 0, 1, "903");
        net.tick(1);
        Check.due("a prefix that came meanwhile", net.rings(0, 3), true);
    }

    private static void noRegisterTakesThem() {
        CrossbarNet net = Scene.net();
        Scene.call(net, 0, 0, "305");
        Check.due("a job", net.dial(0, 0, 1), false);
        net.tick(1);
        Check.due("sending", net.dial(0, 0, 1), false);
        net.tick(3);
        Check.due("ringback", net.dial(0, 0, 1), false);
        net.lift(1, 5);
        Check.due("talking", net.dial(0, 0, 1), false);
        Check.due("talking, called", net.dial(1, 5, 1), false);
        net.hang(1, 5);
        net.tick(12);
        Check.due("busy tone", net.dial(0, 0, 1), false);
        for (int n = 10; n < 14; n++) {
            net.lift(0, n);
        }
        Check.due("one that waits", net.dial(0, 13, 2), false);
    }

    private static void aDigitIsWaitedForTwentyTicks() {
        CrossbarNet net = Scene.net();
        net.lift(0, 0);
        net.tick(19);
        Scene.digits(net, 0, 0, "2");
        net.tick(19);
        Scene.digits(net, 0, 0, "0");
        net.tick(19);
        Check.due("nineteen", net.seized(0, 0, 0), 30);
        net.tick(1);
        Check.due("twenty", net.seized(0, 0, 0), CrossbarNet.NONE);
        Check.due("tone", net.tone(0, 0), CrossbarNet.BUSY);
        Check.due("no register any more", net.dial(0, 0, 5), false);
        net.hang(0, 0);
        net.lift(0, 0);
        net.tick(15);
        net.hang(0, 0);
        net.lift(0, 0);
        net.tick(19);
        Check.due("counted anew by the next call", net.tone(0, 0), CrossbarNet.DIAL);
        net.tick(1);
        Check.due("twenty again", net.tone(0, 0), CrossbarNet.BUSY);
    }
}
