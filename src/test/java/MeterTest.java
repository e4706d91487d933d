/** Promise 14: meter. */
public final class MeterTest {
    public static void main(String[] args) {
        CrossbarNet fresh = new CrossbarNet();
        Check.badPlaces("meter", fresh, fresh::meter);
        unitsAtOnceAndByPeriod();
        hungUpTicksAreNotCounted();
        heldWithoutItsCaller();
        aPeriodOfNoughtIsChargedOnce();
        unitsAndPeriodAreTheNewestOnes();
        Check.finish();
    }

    private static void unitsAtOnceAndByPeriod() {
        CrossbarNet net = Scene.net();
        Scene.call(net, 0, 0, "305");
        net.tick(30);
        Check.due("ringing costs nothing", net.meter(0, 0), 0);
        net.lift(1, 5);
        Check.due("the units of the prefix dialled here", net.meter(0, 0), 3);
        Check.due("the called line pays nothing", net.meter(1, 5), 0);
        net.tick(4);
        Check.due("before the period is over", net.meter(0, 0), 3);
        net.tick(1);
        Check.due("one period", net.meter(0, 0), 6);
        net.tick(10);
        Check.due("three periods", net.meter(0, 0), 12);
        net.hang(0, 0);
        net.tick(20);
        Check.due("over", net.meter(0, 0), 12);
        net.hang(1, 5);
        Scene.call(net, 0, 0, "305");
        net.tick(4);
        net.lift(1, 5);
        Check.due("the next call counts on", net.meter(0, 0), 15);
        net.tick(4);
        Check.due("its period begins anew", net.meter(0, 0), 15);
    }

    private static void hungUpTicksAreNotCounted() {
        CrossbarNet net = Scene.talkOverTrunk();
        net.tick(3);
        net.hang(1, 5);
        net.tick(11);
        net.lift(1, 5);
        Check.due("coming back costs nothing", net.meter(0, 0), 3);
        net.tick(1);
        Check.due("four ticks counted", net.meter(0, 0), 3);
        net.tick(1);
        Check.due("five ticks counted", net.meter(0, 0), 6);
    }

    private static void heldWithoutItsCaller() {
        CrossbarNet net = Scene.talkOverTrunk();
        net.hold(1, 5, true);
        net.hang(0, 0);
        net.tick(10);
        Check.due("the called line has not hung up", net.meter(0, 0), 9);
        net.hang(1, 5);
        net.tick(10);
        Check.due("now it has", net.meter(0, 0), 9);
    }

    private static void aPeriodOfNoughtIsChargedOnce() {
        CrossbarNet net = new CrossbarNet();
        net.route(0, 12, 0, 99, 0);
        Scene.call(net, 0, 0, "201");
        net.tick(1);
        net.lift(0, 1);
        net.tick(100);
        Check.due("once", net.meter(0, 0), 99);
    }

    private static void unitsAndPeriodAreTheNewestOnes() {
        CrossbarNet net = Scene.talkOverTrunk();
        net.tick(4);
        net.route(0, 13, 2, 20, 6);
        net.tick(1);
        Check.due("the period is six now", net.meter(0, 0), 3);
        net.tick(1);
        Check.due("the units are twenty now", net.meter(0, 0), 23);
        net.tick(6);
        Check.due("and stay so", net.meter(0, 0), 43);
    }
}
