/** Promise 8: tick. */
public final class TickTest {
    public static void main(String[] args) {
        refusesWrongNumbers();
        manyAreAsManyOnes();
        eachOfficeDoesOneJobATick();
        digitsGoOneATick();
        aThirdOfficeHasAllDigits();
        numbersComeByOfficeAndRegister();
        registersGoToThoseWhoWaitInTheSameTick();
        anEarlierOfficeTakesTheLastRegister();
        jobsThatCannotBeDone();
        Check.finish();
    }

    private static void refusesWrongNumbers() {
        CrossbarNet net = Scene.talkWithin();
        for (int many : new int[] {0, -1, 101, Integer.MIN_VALUE, Integer.MAX_VALUE}) {
            Check.badArgument("tick(" + many + ")", net, () -> net.tick(many));
        }
    }

    private static void manyAreAsManyOnes() {
        CrossbarNet one = Scene.talkOverTrunk();
        CrossbarNet other = Scene.talkOverTrunk();
        one.tick(100);
        for (int i = 0; i < 100; i++) {
            other.tick(1);
        }
        Check.due("one call of a hundred ticks", Scene.stateOf(one), Scene.stateOf(other));
        Check.due("what they cost", one.meter(0, 0), 3 + 3 * 20);
    }

    private static void eachOfficeDoesOneJobATick() {
        CrossbarNet net = Scene.net();
        net.lift(0, 1);
        net.lift(0, 0);
        Scene.digits(net, 0, 0, "208");
        Scene.digits(net, 0, 1, "209");
        Scene.call(net, 1, 0, "308");
        net.tick(1);
        Check.due("the oldest job", net.rings(0, 8), true);
        Check.due("the other one is not done", net.rings(0, 9), false);
        Check.due("a job is left", net.idle(0, 5), 1);
        Check.due("each office does one", net.rings(1, 8), true);
        net.tick(1);
        Check.due("the other one is done", net.rings(0, 9), true);
        Check.due("no job is left", net.idle(0, 5), 0);
    }

    private static void digitsGoOneATick() {
        CrossbarNet net = new CrossbarNet();
        net.trunk(0, 1);
        net.route(0, 1567, 1, 0, 0);
        net.route(1, 156, 1, 0, 0);
        Scene.call(net, 0, 0, "56712");
        net.tick(4);
        Check.due("one digit is left", Scene.seizedBy(net, 0, 0), "30 0 5000 1030");
        Check.due("no job there", net.idle(1, 5), 0);
        net.tick(1);
        Check.due("all are sent", Scene.seizedBy(net, 0, 0), "0 5000 1030");
        Check.due("a job there", net.idle(1, 5), 1);
        Check.due("the register here is idle", net.idle(0, 0), 3);
        net.tick(1);
        Check.due("what is behind two digits is left out: 71 is no line", net.tone(0, 0), CrossbarNet.UNKNOWN);
        net.hang(0, 0);
        net.route(0, 1560, 1, 0, 0);
        Scene.call(net, 0, 0, "56023");
        net.tick(6);
        Check.due("line 02", net.rings(1, 2), true);
        net.hang(0, 0);
        net.route(0, 10, 1, 0, 0);
        Scene.call(net, 0, 0, "000");
        net.tick(2);
        Check.due("noughts are digits too", net.idle(1, 5), 0);
        net.tick(1);
        Check.due("three of them", net.idle(1, 5), 1);
    }

    private static void aThirdOfficeHasAllDigits() {
        CrossbarNet net = new CrossbarNet();
        net.trunk(0, 1);
        net.trunk(1, 2);
        net.route(0, 1567, 1, 0, 0);
        net.route(1, 15, 2, 0, 0);
        net.route(2, 1567, 2, 0, 0);
        Scene.call(net, 0, 0, "56712");
        net.tick(10);
        Check.due("five digits twice", net.idle(2, 5), 1);
        net.tick(1);
        Check.due("line 12", net.rings(2, 12), true);
    }

    private static void numbersComeByOfficeAndRegister() {
        CrossbarNet net = Scene.net();
        Scene.call(net, 2, 0, "301");
        Scene.call(net, 0, 0, "302");
        net.tick(3);
        Check.due("two jobs", net.idle(1, 5), 2);
        net.tick(1);
        Check.due("that of office 0 came first", net.rings(1, 2), true);
        Check.due("that of office 2 is left", net.rings(1, 1), false);

        CrossbarNet other = Scene.net();
        other.trunk(0, 1);
        other.route(0, 155, 1, 0, 0);
        other.route(1, 155, 1, 0, 0);
        other.lift(0, 0);
        other.lift(0, 1);
        Scene.digits(other, 0, 1, "5501");
        Scene.digits(other, 0, 0, "302");
        other.tick(3);
        Check.due("none is there", other.idle(1, 5), 0);
        other.tick(1);
        Check.due("both are there", other.idle(1, 5), 2);
        other.tick(1);
        Check.due("that of register 0 came first", other.rings(1, 2), true);
        Check.due("that of register 1 is left", other.rings(1, 1), false);
    }

    private static void registersGoToThoseWhoWaitInTheSameTick() {
        CrossbarNet net = Scene.net();
        for (int n = 0; n < 5; n++) {
            net.lift(0, n);
        }
        Scene.digits(net, 0, 1, "208");
        net.tick(1);
        Check.due("the register of a done job", Scene.seizedBy(net, 0, 3), "31");
        net.tick(18);
        Check.due("not yet", net.tone(0, 4), CrossbarNet.SILENCE);
        net.tick(1);
        Check.due("registers that waited too long", net.tone(0, 0), CrossbarNet.BUSY);
        Check.due("the first of them", Scene.seizedBy(net, 0, 4), "30");
        Check.due("tone", net.tone(0, 4), CrossbarNet.DIAL);
        Check.due("the one seized a tick later", net.tone(0, 3), CrossbarNet.DIAL);
        net.tick(1);
        Check.due("it waited twenty ticks too", net.tone(0, 3), CrossbarNet.BUSY);
        net.tick(18);
        Check.due("the last one, nineteen", net.tone(0, 4), CrossbarNet.DIAL);
        net.tick(1);
        Check.due("the last one, twenty", net.tone(0, 4), CrossbarNet.BUSY);
    }

    private static void anEarlierOfficeTakesTheLastRegister() {
        CrossbarNet net = Scene.net();
        net.lift(1, 0);
        net.lift(1, 1);
        Scene.call(net, 2, 0, "305");
        Scene.call(net, 0, 0, "306");
        net.tick(1);
        Check.due("office 0 goes first", Scene.seizedBy(net, 0, 0), "30 0 5000 1032");
        Check.due("office 2 finds none", net.tone(2, 0), CrossbarNet.CONGESTION);
        Check.due("that is no overflow", net.overflow(2, 1), 0);
    }

    private static void jobsThatCannotBeDone() {
        CrossbarNet net = new CrossbarNet();
        net.trunk(0, 1);
        net.route(0, 13, 1, 0, 0);
        net.route(1, 130, 1, 0, 0);
        Scene.call(net, 0, 0, "305");
        Scene.call(net, 0, 1, "315");
        net.tick(4);
        Check.due("one digit behind the prefix there", net.tone(0, 0), CrossbarNet.UNKNOWN);
        net.tick(5);
        Check.due("the only trunk was seized", net.tone(0, 1), CrossbarNet.CONGESTION);
        net.hang(0, 1);
        Scene.call(net, 0, 1, "315");
        net.tick(4);
        Check.due("no prefix there fits", net.tone(0, 1), CrossbarNet.UNKNOWN);
        Check.due("all is idle here", Scene.idles(net, 0), "3 12 5 1 0 0");
        Check.due("all is idle there", Scene.idles(net, 1), "3 12 5 1 0 0");
    }
}
