/** What the terms say of jobs behind a prefix that is own, and promise 4 of hunts: lines, hunts, ways, the rotor. */
final class WayBoundaries {
    private static final String TERMS = "Terms";
    private static final String HUNT = "Promise 4: hunt";
    private static final String JOB = "A JOB at an office, for a call that has come there from a line of it or by a "
            + "trunk:";
    private static final String ABOVE = "A prefix that is OWN: a line above 23 is UNKNOWN.";
    private static final String HUNTS = "If that line is the first one of a HUNT, the first one of that HUNT (in its "
            + "order) that is FREE is called instead, if there is one.";
    private static final String FREE = "A line is FREE if it is on the hook and no call has it.";
    private static final String BUSY = "If it is not, BUSY.";
    private static final String WAY = "A way: an idle link of the primary of the line called, and, if the call comes "
            + "from a line here, before it another idle link, of that line's primary, and an idle junctor.";
    private static final String ROUND = "The secondaries are gone through from the ROTOR on, round: for each one for the "
            + "line that calls (if it is here) all for the line called, in the same order; the first that can be, with "
            + "the first junctor.";
    private static final String ROTOR = "The ROTOR is then the secondary behind that of the line that calls (that is "
            + "called, if the other is elsewhere), 0 behind 3.";
    private static final String NO_WAY = "Without a way: CONGESTION.";
    private static final String RINGS = "All of them are seized (of two lines here the link of the line that calls, the "
            + "junctor, the link of the line called, in this order; of a call that came by a trunk that last link "
            + "alone, no junctor), this office's register is free, and the line called RINGS; the line that calls has "
            + "RINGBACK tone.";
    private static final String ONE_MORE = "One line more in a HUNT 0 .. 3 of an office: how many it has.";
    private static final String FULL = "IllegalState: it has 6, or the line is in one.";

    private WayBoundaries() {
    }

    static void all() {
        Sentence.holds(TERMS, JOB, WayBoundaries::fromALineAndByATrunk);
        Sentence.holds(TERMS, ABOVE, WayBoundaries::lineTwentyFourIsUnknown);
        Sentence.holds(TERMS, HUNTS, WayBoundaries::aHuntOfSixInItsOrder);
        Sentence.holds(TERMS, HUNTS, WayBoundaries::onlyTheFirstLineHunts);
        Sentence.holds(TERMS, HUNTS, WayBoundaries::theFirstLineCallsItself);
        Sentence.holds(TERMS, HUNTS, WayBoundaries::huntsOfOtherOfficesDoNotMatter);
        Sentence.holds(TERMS, FREE, WayBoundaries::liftedLinesAreNotFree);
        Sentence.holds(TERMS, FREE, WayBoundaries::linesOnTheHookThatACallHasAreNotFree);
        Sentence.holds(TERMS, BUSY, WayBoundaries::aHuntWithoutAFreeLineIsBusy);
        Sentence.holds(TERMS, BUSY, WayBoundaries::busyGoesBeforeCongestion);
        Sentence.holds(TERMS, WAY, WayBoundaries::twoLinksOfOnePrimary);
        Sentence.holds(TERMS, WAY, WayBoundaries::aLinkOfEachPrimary);
        Sentence.holds(TERMS, WAY, WayBoundaries::byATrunkOneLinkAndNoJunctor);
        Sentence.holds(TERMS, ROUND, WayBoundaries::fromTheRotorOnRound);
        Sentence.holds(TERMS, ROUND, WayBoundaries::seizedLinksArePassed);
        Sentence.holds(TERMS, ROUND, WayBoundaries::theCalledLineGoesByTheRotorToo);
        Sentence.holds(TERMS, ROUND, WayBoundaries::theFirstJunctor);
        Sentence.holds(TERMS, ROTOR, WayBoundaries::behindTheLinkOfTheLineThatCalls);
        Sentence.holds(TERMS, ROTOR, WayBoundaries::behindTheLinkOfTheLineCalledByATrunk);
        Sentence.holds(TERMS, ROTOR, WayBoundaries::theRotorStaysWhereNoWayWasFound);
        Sentence.holds(TERMS, NO_WAY, WayBoundaries::withoutAWay);
        Sentence.holds(TERMS, RINGS, WayBoundaries::whatIsSeizedWhileItRings);
        Sentence.holds(HUNT, ONE_MORE, WayBoundaries::huntsNoughtToThree);
        Sentence.holds(HUNT, "IllegalArgument.", WayBoundaries::wrongHunts);
        Sentence.holds(HUNT, FULL, WayBoundaries::aSeventhLineOrOneOfAHunt);
    }

    private static void fromALineAndByATrunk() {
        for (int from = 0; from < 3; from++) {
            for (int to = 0; to < 3; to++) {
                CrossbarNet net = Scene.net();
                Scene.call(net, from, 0, 2 + to + "15", from == to ? 1 : 4);
                Check.due("from " + from + " to " + to, net.rings(to, 15), true);
                for (int office = 0; office < 3; office++) {
                    Check.due("junctors of " + office, net.idle(office, 2), office == from && from == to ? 4 : 5);
                }
            }
        }
    }

    private static void lineTwentyFourIsUnknown() {
        for (int line : new int[] {24, 25, 30, 99}) {
            CrossbarNet net = Scene.net();
            Scene.call(net, 0, 0, Scene.number("2", line), 1);
            Check.due("line " + line, net.tone(0, 0), CrossbarNet.UNKNOWN);
            Scene.call(net, 0, 1, Scene.number("3", line), 4);
            Check.due("line " + line + " by a trunk", net.tone(0, 1), CrossbarNet.UNKNOWN);
        }
        for (int line : new int[] {0, 23}) {
            CrossbarNet net = Scene.net();
            Scene.call(net, 0, 10, Scene.number("2", line), 1);
            Check.due("line " + line, net.rings(0, line), true);
            Scene.call(net, 0, 11, Scene.number("3", line), 4);
            Check.due("line " + line + " by a trunk", net.rings(1, line), true);
        }
    }

    private static void aHuntOfSixInItsOrder() {
        int[] order = {5, 17, 3, 23, 0, 11};
        CrossbarNet net = Scene.net();
        for (int line : order) {
            net.hunt(1, 3, line);
        }
        for (int i = 0; i < order.length; i++) {
            Scene.call(net, 0, 0, "305", 4);
            Check.due("the one in place " + i, net.rings(1, order[i]), true);
            net.hang(0, 0);
            Scene.call(net, 1, order[i], "9");
        }
        Scene.call(net, 0, 0, "305", 4);
        Check.due("none is free", net.tone(0, 0), CrossbarNet.BUSY);
        net.hang(0, 0);
        net.hang(1, 23);
        Scene.call(net, 0, 0, "305", 4);
        Check.due("one in the middle is free", net.rings(1, 23), true);
        net.hang(1, 5);
        Scene.call(net, 1, 1, "305", 1);
        Check.due("the first one is free again", net.rings(1, 5), true);
    }

    private static void onlyTheFirstLineHunts() {
        CrossbarNet net = Scene.net();
        for (int line : new int[] {8, 9, 10}) {
            net.hunt(0, 0, line);
        }
        Scene.call(net, 0, 0, "209", 1);
        Check.due("the second one is called itself", net.rings(0, 9), true);
        Scene.call(net, 0, 1, "209", 1);
        Check.due("and is busy itself", net.tone(0, 1), CrossbarNet.BUSY);
        Scene.call(net, 0, 2, "207", 1);
        Check.due("a line of no hunt", net.rings(0, 7), true);
        Check.due("no other line rings", net.rings(0, 8) || net.rings(0, 10), false);
    }

    private static void theFirstLineCallsItself() {
        CrossbarNet net = Scene.net();
        net.hunt(0, 2, 8);
        net.hunt(0, 2, 9);
        Scene.call(net, 0, 8, "208", 1);
        Check.due("the next one is called instead", net.rings(0, 9), true);
        net.hunt(0, 3, 12);
        Scene.call(net, 0, 12, "212", 1);
        Check.due("a hunt of one line", net.tone(0, 12), CrossbarNet.BUSY);
        net.hang(0, 12);
        Scene.call(net, 0, 0, "212", 1);
        Check.due("a hunt of one line that is free", net.rings(0, 12), true);
    }

    private static void huntsOfOtherOfficesDoNotMatter() {
        CrossbarNet net = Scene.net();
        net.hunt(1, 0, 8);
        net.hunt(1, 0, 9);
        net.lift(0, 8);
        Scene.call(net, 0, 0, "208", 1);
        Check.due("line 8 of office 0 is in no hunt", net.tone(0, 0), CrossbarNet.BUSY);
        net.lift(1, 8);
        Scene.call(net, 0, 1, "308", 4);
        Check.due("line 8 of office 1 is", net.rings(1, 9), true);
    }

    private static void liftedLinesAreNotFree() {
        for (int line = 8; line < 12; line++) {
            CrossbarNet net = Scene.net();
            net.lift(1, 0);
            Scene.call(net, 1, 8, "9");
            Scene.call(net, 1, 9, "30");
            net.lift(1, 10);
            net.lift(1, 11);
            Check.due("line 8 has unknown tone, 9 dials, 10 has dial tone, 11 waits", net.idle(1, 4), 1);
            Scene.digits(net, 1, 0, Scene.number("3", line));
            net.tick(1);
            Check.due("line " + line, net.tone(1, 0), CrossbarNet.BUSY);
            for (int other = 8; other < 12; other++) {
                net.hang(1, other);
            }
            Scene.call(net, 1, 1, Scene.number("3", line), 1);
            Check.due("on the hook again, line " + line, net.rings(1, line), true);
        }
    }

    private static void linesOnTheHookThatACallHasAreNotFree() {
        CrossbarNet net = Scene.wideNet();
        Scene.call(net, 0, 8, "305", 4);
        notFree(net, 0, "305", "it rings");
        net.lift(1, 5);
        notFree(net, 1, "305", "it talks");
        net.hang(1, 5);
        notFree(net, 2, "305", "it has hung up for now");
        net.hold(1, 5, true);
        net.hang(0, 8);
        Scene.call(net, 0, 9, "208", 1);
        Check.due("it called, of a held call", net.tone(0, 9), CrossbarNet.BUSY);
        notFree(net, 3, "305", "it has hung up, and so has the other");
        net.hold(1, 5, false);
        Scene.call(net, 0, 4, "305", 4);
        Check.due("all is over", net.rings(1, 5), true);
        net.hang(0, 4);
        Scene.call(net, 0, 5, "305", 4);
        Check.due("it rang for another call", net.rings(1, 5), true);
    }

    private static void notFree(CrossbarNet net, int line, String digits, String what) {
        Scene.call(net, 0, line, digits, 4);
        Check.due(what, net.tone(0, line), CrossbarNet.BUSY);
    }

    private static void aHuntWithoutAFreeLineIsBusy() {
        CrossbarNet net = Scene.net();
        net.hunt(0, 0, 8);
        net.hunt(0, 0, 9);
        Scene.call(net, 0, 9, "208", 1);
        Check.due("the first one rings", net.rings(0, 8), true);
        Scene.call(net, 0, 0, "208", 1);
        Check.due("one rings, one calls", net.tone(0, 0), CrossbarNet.BUSY);
        Check.due("its register", net.idle(0, 0), 3);
        Scene.call(net, 0, 1, "201", 1);
        Check.due("a line that calls itself", net.tone(0, 1), CrossbarNet.BUSY);
    }

    private static void busyGoesBeforeCongestion() {
        CrossbarNet net = Scene.wideNet();
        Scene.keepIdle(net, 0);
        net.lift(0, 7);
        Scene.call(net, 0, 8, "207", 1);
        Check.due("no link, and the line is lifted", net.tone(0, 8), CrossbarNet.BUSY);
        Scene.call(net, 0, 9, "206", 1);
        Check.due("no link", net.tone(0, 9), CrossbarNet.CONGESTION);
        Scene.call(net, 0, 6, "224", 1);
        Check.due("no link, and there is no such line", net.tone(0, 6), CrossbarNet.UNKNOWN);
    }

    private static void twoLinksOfOnePrimary() {
        CrossbarNet one = Scene.wideNet();
        Scene.keepIdle(one, 0, 2);
        Scene.call(one, 0, 4, "205", 1);
        Check.due("one link is idle, two are needed", one.tone(0, 4), CrossbarNet.CONGESTION);
        Check.due("it stays idle", one.idle(0, 1), 9);
        Check.due("no junctor is seized", one.idle(0, 2), 5);
        CrossbarNet two = Scene.wideNet();
        Scene.keepIdle(two, 0, 0, 2);
        Scene.call(two, 0, 4, "205", 1);
        Check.due("two links are idle", Scene.seizedBy(two, 0, 4), "0 20 2");
    }

    private static void aLinkOfEachPrimary() {
        CrossbarNet net = Scene.wideNet();
        Scene.keepIdle(net, 0, 3);
        Scene.keepIdle(net, 1, 0);
        Scene.call(net, 0, 4, "212", 1);
        Check.due("one link of each is idle", Scene.seizedBy(net, 0, 4), "3 20 4");
        Scene.call(net, 0, 5, "217", 1);
        Check.due("none for the line that calls", net.tone(0, 5), CrossbarNet.CONGESTION);
        Scene.call(net, 0, 18, "213", 1);
        Check.due("none for the line called", net.tone(0, 18), CrossbarNet.CONGESTION);
        Scene.call(net, 0, 16, "217", 1);
        Check.due("another primary", Scene.seizedBy(net, 0, 16), "8 21 9");
    }

    private static void byATrunkOneLinkAndNoJunctor() {
        CrossbarNet net = Scene.wideNet();
        for (int line = 0; line < 4; line++) {
            Scene.call(net, 1, line, Scene.number("3", 8 + line), 1);
        }
        Scene.call(net, 1, 16, "317", 1);
        Check.due("no junctor is idle there", net.idle(1, 2), 0);
        Scene.call(net, 0, 0, "318", 4);
        Check.due("none is needed", Scene.seizedBy(net, 0, 0), "0 5000 1010");
        Scene.call(net, 0, 1, "319", 4);
        Check.due("the last link of that primary", Scene.seizedBy(net, 0, 1), "1 5001 1011");
        Scene.call(net, 0, 2, "320", 4);
        Check.due("no link there", net.tone(0, 2), CrossbarNet.CONGESTION);
        Check.due("what it had seized is idle", net.idle(0, 1) + " " + net.idle(0, 3) + " " + net.idle(1, 0), "10 10 3");
    }

    private static void fromTheRotorOnRound() {
        for (int rotor = 0; rotor < 4; rotor++) {
            CrossbarNet net = Scene.net();
            Scene.turnRotor(net, rotor);
            Scene.call(net, 0, 0, "208", 1);
            Check.due("two primaries, rotor " + rotor, Scene.seizedBy(net, 0, 0), rotor + " 20 " + (4 + rotor));
            CrossbarNet other = Scene.net();
            Scene.turnRotor(other, rotor);
            Scene.call(other, 0, 0, "201", 1);
            Check.due("one primary, rotor " + rotor, Scene.seizedBy(other, 0, 0), rotor + " 20 " + (rotor + 1) % 4);
        }
    }

    private static void seizedLinksArePassed() {
        String[] due = {"1 20 3", "1 20 3", "3 20 1", "3 20 1"};
        for (int rotor = 0; rotor < 4; rotor++) {
            CrossbarNet net = Scene.wideNet();
            Scene.keepIdle(net, 0, 1, 3);
            Scene.turnRotor(net, rotor);
            Scene.call(net, 0, 4, "205", 1);
            Check.due("links 1 and 3 are idle, rotor " + rotor, Scene.seizedBy(net, 0, 4), due[rotor]);
        }
    }

    private static void theCalledLineGoesByTheRotorToo() {
        CrossbarNet net = Scene.wideNet();
        Scene.keepIdle(net, 0, 3);
        Scene.keepIdle(net, 1, 1, 3);
        Scene.turnRotor(net, 1);
        Scene.call(net, 0, 4, "212", 1);
        Check.due("from the rotor on, not from the other's link on", Scene.seizedBy(net, 0, 4), "3 20 5");
        CrossbarNet round = Scene.wideNet();
        Scene.keepIdle(round, 1, 0, 1);
        Scene.turnRotor(round, 2);
        Scene.call(round, 0, 4, "212", 1);
        Check.due("round to 0", Scene.seizedBy(round, 0, 4), "2 20 4");
    }

    private static void theFirstJunctor() {
        CrossbarNet net = Scene.net();
        Scene.call(net, 0, 0, "208", 1);
        Scene.call(net, 0, 1, "209", 1);
        Scene.call(net, 0, 2, "210", 1);
        net.hang(0, 1);
        net.hang(0, 0);
        Scene.call(net, 0, 3, "211", 1);
        Check.due("of two that are idle again", net.seized(0, 3, 1), 20);
        Scene.call(net, 0, 4, "212", 1);
        Check.due("the other one", net.seized(0, 4, 1), 21);
        Scene.call(net, 0, 16, "217", 1);
        Check.due("then the fourth", net.seized(0, 16, 1), 23);
    }

    private static void behindTheLinkOfTheLineThatCalls() {
        CrossbarNet net = Scene.wideNet();
        Scene.keepIdle(net, 0, 2);
        Scene.call(net, 0, 4, "208", 1);
        Check.due("the rotor was at 0", Scene.seizedBy(net, 0, 4), "2 20 4");
        Scene.call(net, 0, 16, "217", 1);
        Check.due("it is at 3: behind the link seized", Scene.seizedBy(net, 0, 16), "11 21 8");
        Scene.call(net, 0, 9, "218", 1);
        Check.due("it is at 0: not behind the other's link", Scene.seizedBy(net, 0, 9), "5 22 9");
    }

    private static void behindTheLinkOfTheLineCalledByATrunk() {
        CrossbarNet net = Scene.net();
        Scene.call(net, 1, 0, "301", 1);
        Check.due("links 0 and 1, the rotor is at 1", Scene.seizedBy(net, 1, 0), "1000 1020 1001");
        Scene.call(net, 0, 0, "302", 4);
        Check.due("link 2 for the line called", Scene.seizedBy(net, 0, 0), "0 5000 1002");
        Scene.call(net, 1, 8, "316", 1);
        Check.due("the rotor is at 3", Scene.seizedBy(net, 1, 8), "1007 1021 1011");
        Scene.call(net, 0, 8, "209", 1);
        Check.due("that of office 0 went on by itself", Scene.seizedBy(net, 0, 8), "5 20 6");
        Scene.call(net, 2, 0, "303", 4);
        Check.due("the last link, from 0 on", Scene.seizedBy(net, 2, 0), "2000 5001 1003");
        Scene.call(net, 1, 9, "317", 1);
        Check.due("the rotor is at 0 behind 3", Scene.seizedBy(net, 1, 9), "1004 1022 1008");
    }

    private static void theRotorStaysWhereNoWayWasFound() {
        CrossbarNet net = Scene.wideNet();
        Scene.keepIdle(net, 0, 1);
        net.lift(0, 13);
        Scene.call(net, 0, 8, "213", 1);
        Check.due("busy", net.tone(0, 8), CrossbarNet.BUSY);
        Scene.call(net, 0, 9, "224", 1);
        Check.due("unknown", net.tone(0, 9), CrossbarNet.UNKNOWN);
        Scene.call(net, 0, 4, "205", 1);
        Check.due("congestion", net.tone(0, 4), CrossbarNet.CONGESTION);
        Scene.call(net, 0, 10, "216", 1);
        Check.due("the rotor is at 0 still", Scene.seizedBy(net, 0, 10), "4 20 8");
    }

    private static void withoutAWay() {
        CrossbarNet net = Scene.wideNet();
        Scene.keepIdle(net, 0);
        Scene.call(net, 0, 4, "208", 1);
        Check.due("no link of the line that calls", net.tone(0, 4), CrossbarNet.CONGESTION);
        Check.due("the line does not ring", net.rings(0, 8), false);
        Check.due("its register", net.idle(0, 0), 3);
        Scene.call(net, 0, 8, "205", 1);
        Check.due("no link of the line called", net.tone(0, 8), CrossbarNet.CONGESTION);
        net.tick(100);
        Check.due("it is not tried again", net.tone(0, 8), CrossbarNet.CONGESTION);
        Scene.call(net, 1, 16, "205", 4);
        Check.due("no link of the line called, by a trunk", net.tone(1, 16), CrossbarNet.CONGESTION);
    }

    private static void whatIsSeizedWhileItRings() {
        CrossbarNet net = Scene.net();
        Scene.call(net, 2, 23, "400", 1);
        Check.due("two lines here", Scene.seizedBy(net, 2, 23), "2008 2020 2000");
        Check.due("its register is free", Scene.idles(net, 2), "3 10 4 2 0 0");
        Check.due("the line called", net.rings(2, 0), true);
        Check.due("the line called is silent", net.tone(2, 0), CrossbarNet.SILENCE);
        Check.due("the line that calls", net.tone(2, 23), CrossbarNet.RINGBACK);
        Check.due("nothing is seized by the line called", net.seized(2, 0, 0), CrossbarNet.NONE);
        Scene.call(net, 0, 9, "401", 4);
        Check.due("by a trunk", Scene.seizedBy(net, 0, 9), "4 5002 2001");
        Check.due("no junctor, and the register is free", Scene.idles(net, 2), "3 9 4 1 0 0");
        Check.due("the line that calls from afar", net.tone(0, 9), CrossbarNet.RINGBACK);
        Check.due("no junctor there", Scene.idles(net, 0), "3 11 5 1 0 0");
    }

    private static void huntsNoughtToThree() {
        CrossbarNet net = new CrossbarNet();
        for (int office = 0; office < 3; office++) {
            for (int hunt = 0; hunt < 4; hunt++) {
                for (int i = 0; i < 6; i++) {
                    Check.due("lines of hunt " + hunt, net.hunt(office, hunt, 23 - 6 * hunt - i), i + 1);
                }
            }
        }
    }

    private static void wrongHunts() {
        CrossbarNet net = new CrossbarNet();
        for (int hunt : new int[] {Integer.MIN_VALUE, -1, 4, Integer.MAX_VALUE}) {
            Check.badArgument("hunt " + hunt, net, () -> net.hunt(0, hunt, 0));
        }
        Check.badPlaces("hunt", net, (office, line) -> net.hunt(office, 3, line));
        Check.due("none of these is in a hunt", net.hunt(0, 3, 0), 1);
    }

    private static void aSeventhLineOrOneOfAHunt() {
        CrossbarNet net = new CrossbarNet();
        for (int line = 0; line < 6; line++) {
            net.hunt(0, 0, line);
        }
        Check.badState("a seventh line", net, () -> net.hunt(0, 0, 6));
        Check.badState("a seventh line, already in it", net, () -> net.hunt(0, 0, 5));
        Check.badArgument("a seventh line, number 24", net, () -> net.hunt(0, 0, 24));
        for (int line = 0; line < 6; line++) {
            int n = line;
            Check.badState("in another one, line " + line, net, () -> net.hunt(0, 1, n));
        }
        Check.due("what was refused is in none", net.hunt(0, 1, 6), 1);
        Check.badState("in this one", net, () -> net.hunt(0, 1, 6));
        Check.due("what was refused has not been counted", net.hunt(0, 1, 7), 2);
        Check.due("the same line of another office", net.hunt(1, 0, 0), 1);
    }
}
