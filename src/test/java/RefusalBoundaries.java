/** What the terms say of calls that throw, and the promises of their arguments: what is refused leaves no trace. */
final class RefusalBoundaries {
    private static final String TERMS = "Terms";
    private static final String NOTHING = "What throws changes nothing.";
    private static final String BEFORE = "IllegalArgument goes before IllegalState; it is thrown also where a number is "
            + "none of those told here.";

    private RefusalBoundaries() {
    }

    static void all() {
        Sentence.holds(TERMS, NOTHING, RefusalBoundaries::aRefusedTickIsNoTime);
        Sentence.holds(TERMS, NOTHING, RefusalBoundaries::aRefusedDigitIsWaitedForOn);
        Sentence.holds(TERMS, NOTHING, RefusalBoundaries::aRefusedHangingUpCountsOn);
        Sentence.holds(TERMS, NOTHING, RefusalBoundaries::aRefusedLiftingKeepsThePlace);
        Sentence.holds(TERMS, NOTHING, RefusalBoundaries::aRefusedLiftingIsNotCharged);
        Sentence.holds(TERMS, NOTHING, RefusalBoundaries::aRefusedPrefixIsNotThere);
        Sentence.holds(TERMS, NOTHING, RefusalBoundaries::aRefusedChoiceIsNotThere);
        Sentence.holds(TERMS, NOTHING, RefusalBoundaries::aRefusedTrunkIsNotThere);
        Sentence.holds(TERMS, NOTHING, RefusalBoundaries::aRefusedLineIsInNoHunt);
        Sentence.holds(TERMS, NOTHING, RefusalBoundaries::aRefusedHoldHoldsNothing);
        Sentence.holds(TERMS, BEFORE, RefusalBoundaries::trunkWithBoth);
        Sentence.holds(TERMS, BEFORE, RefusalBoundaries::routeWithBoth);
        Sentence.holds(TERMS, BEFORE, RefusalBoundaries::huntWithBoth);
        Sentence.holds(TERMS, BEFORE, RefusalBoundaries::dialWithBoth);
        Sentence.holds(TERMS, BEFORE, RefusalBoundaries::numbersThatAreNotTold);
        wrongPlaces();
    }

    private static void wrongPlaces() {
        CrossbarNet net = Scene.talkWithin();
        wrongPlaces(net, "Promise 5: lift", net::lift);
        wrongPlaces(net, "Promise 6: hang", net::hang);
        wrongPlaces(net, "Promise 10: hold", (office, line) -> net.hold(office, line, true));
        wrongPlaces(net, "Promise 10: hold", (office, line) -> net.hold(office, line, false));
        wrongPlaces(net, "Promise 11: tone", net::tone);
        wrongPlaces(net, "Promise 12: rings", net::rings);
        wrongPlaces(net, "Promise 13: talks", net::talks);
        wrongPlaces(net, "Promise 14: meter", net::meter);
    }

    private static void wrongPlaces(CrossbarNet net, String promise, Check.Place call) {
        Sentence.holds(promise, "IllegalArgument.", () -> Check.badPlaces(promise, net, call));
    }

    private static void aRefusedTickIsNoTime() {
        CrossbarNet net = Scene.net();
        net.lift(0, 0);
        net.tick(19);
        Check.badArgument("no tick", net, () -> net.tick(0));
        Check.badArgument("too many ticks", net, () -> net.tick(101));
        Check.due("the twentieth tick has not come", net.dial(0, 0, 2), true);
    }

    private static void aRefusedDigitIsWaitedForOn() {
        CrossbarNet net = Scene.net();
        Scene.call(net, 0, 0, "2", 19);
        Check.badArgument("no digit", net, () -> net.dial(0, 0, 10));
        Check.badArgument("no digit either", net, () -> net.dial(0, 0, -1));
        net.tick(1);
        Check.due("the twentieth tick", net.tone(0, 0), CrossbarNet.BUSY);
        net.lift(0, 1);
        Check.badArgument("the first one", net, () -> net.dial(0, 1, 10));
        Check.due("there is dial tone still", net.tone(0, 1), CrossbarNet.DIAL);
    }

    private static void aRefusedHangingUpCountsOn() {
        CrossbarNet net = Scene.talkWithin();
        net.hang(0, 5);
        net.tick(11);
        Check.badState("it is on the hook", net, () -> net.hang(0, 5));
        net.tick(1);
        Check.due("the twelfth tick", net.tone(0, 0), CrossbarNet.BUSY);
        CrossbarNet held = Scene.talkWithin();
        held.hold(0, 5, true);
        held.hang(0, 0);
        Check.badState("the line that calls is on the hook", held, () -> held.hang(0, 0));
        held.lift(0, 0);
        Check.due("the call stays", held.talks(0, 0), 5);
    }

    private static void aRefusedLiftingKeepsThePlace() {
        CrossbarNet net = Scene.net();
        for (int line = 0; line < 5; line++) {
            net.lift(0, line);
        }
        Check.badState("it waits", net, () -> net.lift(0, 3));
        net.hang(0, 0);
        net.tick(1);
        Check.due("it waited longest", net.seized(0, 3, 0), 30);
        Check.due("one waits on", net.idle(0, 4), 1);
        net.tick(18);
        Check.badState("it has a register", net, () -> net.lift(0, 1));
        net.tick(1);
        Check.due("the twentieth tick", net.tone(0, 1), CrossbarNet.BUSY);
    }

    private static void aRefusedLiftingIsNotCharged() {
        CrossbarNet net = Scene.talkOverTrunk();
        net.tick(4);
        Check.badState("it talks", net, () -> net.lift(1, 5));
        Check.badState("it calls and talks", net, () -> net.lift(0, 0));
        Check.due("not charged", net.meter(0, 0), 3);
        net.tick(1);
        Check.due("the period's last tick", net.meter(0, 0), 6);
    }

    private static void aRefusedPrefixIsNotThere() {
        CrossbarNet net = new CrossbarNet();
        Check.badArgument("units", net, () -> net.route(0, 12, 0, 100, 0));
        Check.badArgument("period", net, () -> net.route(0, 12, 0, 0, 1001));
        Check.badArgument("next", net, () -> net.route(0, 12, 3, 0, 0));
        Scene.call(net, 0, 0, "2");
        Check.due("it is not there", net.tone(0, 0), CrossbarNet.UNKNOWN);
        net.route(0, 134, 0, 0, 0);
        Check.badState("another one begins with it", net, () -> net.route(0, 13, 1, 0, 0));
        Check.badState("it begins with another one", net, () -> net.route(0, 1345, 1, 0, 0));
        Scene.call(net, 0, 1, "35");
        Check.due("35 is not behind 3", net.tone(0, 1), CrossbarNet.UNKNOWN);
        Scene.call(net, 0, 2, "3405");
        Check.due("34 is a prefix still", net.idle(0, 5), 1);
        for (int i = 0; i < 11; i++) {
            Check.due("there is room for eleven more", net.route(0, 1500 + i, 0, 0, 0), 0);
        }
        Check.badState("and for no twelfth", net, () -> net.route(0, 16, 0, 0, 0));
    }

    private static void aRefusedChoiceIsNotThere() {
        CrossbarNet net = Scene.net();
        Check.badArgument("a choice with wrong units", net, () -> net.route(0, 13, 2, -1, 0));
        net.out(0, true);
        Scene.call(net, 0, 0, "305", 1);
        Check.due("there is no second choice", net.tone(0, 0), CrossbarNet.CONGESTION);
        Check.due("how many it has with one more", net.route(0, 13, 2, 0, 0), 2);
        Check.badState("this one already", net, () -> net.route(0, 13, 2, 0, 0));
        Scene.call(net, 0, 1, "305", 1);
        Check.due("there is one now", net.seized(0, 1, 3), 2030);
        Check.due("one overflow for each call", net.overflow(0, 1), 2);
    }

    private static void aRefusedTrunkIsNotThere() {
        CrossbarNet net = new CrossbarNet();
        Check.badArgument("between the same", net, () -> net.trunk(1, 1));
        Check.badArgument("to no office", net, () -> net.trunk(1, 3));
        Check.badArgument("it has no number", net, () -> net.out(0, true));
        Check.due("the first number", net.trunk(1, 2), 0);
        Check.badArgument("the next number is not there", net, () -> net.out(1, true));
        Check.due("nothing is out", net.out(0, false), false);
    }

    private static void aRefusedLineIsInNoHunt() {
        CrossbarNet net = Scene.net();
        net.hunt(0, 0, 8);
        net.hunt(0, 1, 9);
        Check.badState("it is in another one", net, () -> net.hunt(0, 0, 9));
        Check.badArgument("there is no such hunt", net, () -> net.hunt(0, 4, 10));
        net.lift(0, 8);
        Scene.call(net, 0, 0, "208", 1);
        Check.due("the hunt has no second line", net.tone(0, 0), CrossbarNet.BUSY);
        Check.due("its second line", net.hunt(0, 0, 10), 2);
        Scene.call(net, 0, 1, "208", 1);
        Check.due("that one rings", net.rings(0, 10), true);
    }

    private static void aRefusedHoldHoldsNothing() {
        CrossbarNet net = Scene.talkWithin();
        Check.badArgument("no such line", net, () -> net.hold(0, 24, true));
        Check.badArgument("no such office", net, () -> net.hold(3, 5, true));
        net.hang(0, 0);
        Check.due("over", net.tone(0, 5), CrossbarNet.BUSY);
    }

    private static void trunkWithBoth() {
        CrossbarNet net = Scene.wideNet();
        for (int[] ends : new int[][] {{0, 0}, {2, 2}, {-1, 0}, {0, 3}, {3, 3}}) {
            Check.badArgument("sixteen, and " + ends[0] + " " + ends[1], net, () -> net.trunk(ends[0], ends[1]));
        }
    }

    private static void routeWithBoth() {
        CrossbarNet net = new CrossbarNet();
        net.route(0, 12, 0, 0, 0);
        net.route(0, 134, 1, 0, 0);
        for (int prefix : new int[] {12, 120, 134, 13, 1345}) {
            Check.badArgument("next of " + prefix, net, () -> net.route(0, prefix, 3, 0, 0));
            Check.badArgument("units of " + prefix, net, () -> net.route(0, prefix, 1, 100, 0));
            Check.badArgument("period of " + prefix, net, () -> net.route(0, prefix, 1, 0, -1));
        }
        for (int i = 0; i < 10; i++) {
            net.route(0, 150 + i, 0, 0, 0);
        }
        Check.badArgument("twelve, and no prefix", net, () -> net.route(0, 20, 0, 0, 0));
        Check.badArgument("twelve, and no next", net, () -> net.route(0, 16, -1, 0, 0));
        Check.badArgument("twelve, and no units", net, () -> net.route(0, 16, 0, -1, 0));
        Check.badArgument("twelve, and no period", net, () -> net.route(0, 16, 0, 0, 1001));
        Check.badState("twelve", net, () -> net.route(0, 16, 0, 0, 0));
    }

    private static void huntWithBoth() {
        CrossbarNet net = new CrossbarNet();
        for (int line = 0; line < 6; line++) {
            net.hunt(0, 0, line);
        }
        Check.badArgument("six, and no line", net, () -> net.hunt(0, 0, 24));
        Check.badArgument("six, and no line either", net, () -> net.hunt(0, 0, -1));
        Check.badArgument("the line is in one, and no hunt", net, () -> net.hunt(0, 4, 0));
        Check.badArgument("the line is in one, and no hunt either", net, () -> net.hunt(0, -1, 0));
        Check.badArgument("no office", net, () -> net.hunt(3, 0, 0));
    }

    private static void dialWithBoth() {
        CrossbarNet net = Scene.net();
        Check.badArgument("on the hook, and no digit", net, () -> net.dial(0, 0, 10));
        Check.badArgument("on the hook, and no digit either", net, () -> net.dial(0, 0, -1));
        net.lift(0, 0);
        Check.badArgument("lifted, and no line", net, () -> net.dial(0, 24, 0));
        Scene.digits(net, 0, 0, "9");
        Check.badArgument("no register, and no digit", net, () -> net.dial(0, 0, 10));
    }

    private static void numbersThatAreNotTold() {
        CrossbarNet net = Scene.net();
        for (int far : new int[] {Integer.MIN_VALUE, -1, 2000, Integer.MAX_VALUE}) {
            Check.badArgument("trunk " + far, net, () -> net.trunk(far, 0));
            Check.badArgument("route " + far, net, () -> net.route(0, far, 0, 0, 0));
            Check.badArgument("route next " + far, net, () -> net.route(0, 15, far, 0, 0));
            Check.badArgument("hunt " + far, net, () -> net.hunt(0, far, 0));
            Check.badArgument("lift " + far, net, () -> net.lift(far, 0));
            Check.badArgument("hang " + far, net, () -> net.hang(0, far));
            Check.badArgument("dial " + far, net, () -> net.dial(0, 0, far));
            Check.badArgument("tick " + far, net, () -> net.tick(far));
            Check.badArgument("out " + far, net, () -> net.out(far, false));
            Check.badArgument("hold " + far, net, () -> net.hold(far, 0, false));
            Check.badArgument("idle " + far, net, () -> net.idle(0, far));
            Check.badArgument("overflow " + far, net, () -> net.overflow(far, 0));
        }
        Check.badArgument("seized -1", net, () -> net.seized(0, 0, -1));
    }
}
