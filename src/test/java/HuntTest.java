/** Promise 4: hunt. */
public final class HuntTest {
    public static void main(String[] args) {
        countsAndRefuses();
        theFirstFreeOneIsCalled();
        onlyTheFirstOneHunts();
        aHuntedCallMayComeByATrunk();
        Check.finish();
    }

    private static void countsAndRefuses() {
        CrossbarNet net = new CrossbarNet();
        for (int i = 0; i < 6; i++) {
            Check.due("lines of the hunt", net.hunt(2, 3, 20 - i), i + 1);
        }
        Check.badState("a seventh line", net, () -> net.hunt(2, 3, 0));
        Check.badState("a line of another hunt", net, () -> net.hunt(2, 0, 17));
        Check.due("one of another hunt", net.hunt(2, 0, 1), 1);
        Check.badState("a line of this hunt", net, () -> net.hunt(2, 0, 1));
        Check.due("the same line in another office", net.hunt(1, 0, 17), 1);
        Check.badPlaces("hunt", net, (office, line) -> net.hunt(office, 0, line));
        Check.badArgument("hunt -1", net, () -> net.hunt(0, -1, 0));
        Check.badArgument("hunt 4", net, () -> net.hunt(0, 4, 0));
        Check.badArgument("argument before state", net, () -> net.hunt(2, 3, 24));
    }

    private static void theFirstFreeOneIsCalled() {
        CrossbarNet net = Scene.net();
        net.hunt(0, 0, 20);
        net.hunt(0, 0, 12);
        net.hunt(0, 0, 9);
        Scene.call(net, 0, 0, "220");
        net.tick(1);
        Check.due("the first one is free", net.rings(0, 20), true);
        net.lift(0, 12);
        Scene.call(net, 0, 1, "220");
        net.tick(1);
        Check.due("one rings, one is lifted: the third", net.rings(0, 9), true);
        net.hang(0, 12);
        net.hang(0, 1);
        Scene.call(net, 0, 1, "220");
        net.tick(1);
        Check.due("the second, in the hunt's order", net.rings(0, 12), true);
        Check.due("not the third", net.rings(0, 9), false);
        net.lift(0, 9);
        Scene.call(net, 0, 2, "220");
        net.tick(1);
        Check.due("none is free", net.tone(0, 2), CrossbarNet.BUSY);
    }

    private static void onlyTheFirstOneHunts() {
        CrossbarNet net = Scene.net();
        net.hunt(0, 1, 4);
        net.hunt(0, 1, 5);
        net.lift(0, 5);
        Scene.call(net, 0, 0, "205");
        net.tick(1);
        Check.due("a later line of a hunt is busy", net.tone(0, 0), CrossbarNet.BUSY);
        Check.due("the first one does not ring", net.rings(0, 4), false);
    }

    private static void aHuntedCallMayComeByATrunk() {
        CrossbarNet net = Scene.net();
        net.hunt(1, 2, 3);
        net.hunt(1, 2, 18);
        net.lift(1, 3);
        Scene.call(net, 0, 0, "303");
        net.tick(4);
        Check.due("the second line rings", net.rings(1, 18), true);
        Check.due("by a link of its own primary", Scene.seizedBy(net, 0, 0), "0 5000 1008");
    }
}
