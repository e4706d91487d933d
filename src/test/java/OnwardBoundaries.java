/** What the terms and promises 2, 9 and 17 say of calls that go on to another office: choices, trunks, overflows. */
final class OnwardBoundaries {
    private static final String TERMS = "Terms";
    private static final String TRUNK = "Promise 2: trunk";
    private static final String OUT = "Promise 9: out";
    private static final String OVERFLOW = "Promise 17: overflow";
    private static final String CHOICES = "Other prefixes: of the CHOICES in order the first that is on no way of this "
            + "call so far, with an idle trunk between both offices that is not out (if there is none: one more OVERFLOW "
            + "from here to there), an idle register there, and, if the call comes from a line here, an idle link of "
            + "its primary (by the ROTOR, as above).";
    private static final String SEIZED = "They are seized (the link first, then the trunk, then the register; the ROTOR "
            + "goes on as above), and this register is SENDING all digits.";
    private static final String UNKNOWN = "If no prefix of this office fits, or there are fewer than two digits behind "
            + "it: UNKNOWN; more than two are left out.";
    private static final String OVER = "A call that has it is OVER, but that the line that calls has CONGESTION tone.";

    private OnwardBoundaries() {
    }

    static void all() {
        Sentence.holds(TERMS, CHOICES, OnwardBoundaries::officesOnTheWayArePassed);
        Sentence.holds(TERMS, CHOICES, OnwardBoundaries::aCircleIsNotGone);
        Sentence.holds(TERMS, CHOICES, OnwardBoundaries::noTrunkIsAnOverflow);
        Sentence.holds(TERMS, CHOICES, OnwardBoundaries::trunksThatAreSeizedOrOutArePassed);
        Sentence.holds(TERMS, CHOICES, OnwardBoundaries::trunksOfOtherOfficesDoNotServe);
        Sentence.holds(TERMS, CHOICES, OnwardBoundaries::theLastRegisterThere);
        Sentence.holds(TERMS, CHOICES, OnwardBoundaries::noRegisterThereIsNoOverflow);
        Sentence.holds(TERMS, CHOICES, OnwardBoundaries::noLinkIsNoOverflow);
        Sentence.holds(TERMS, CHOICES, OnwardBoundaries::noLinkIsNeededInBetween);
        Sentence.holds(TERMS, CHOICES, OnwardBoundaries::theLinkGoesByTheRotor);
        Sentence.holds(TERMS, SEIZED, OnwardBoundaries::whatIsSeizedInWhatOrder);
        Sentence.holds(TERMS, SEIZED, OnwardBoundaries::theRotorGoesOnRound);
        Sentence.holds(TERMS, SEIZED, OnwardBoundaries::allDigitsAreSentTwice);
        Sentence.holds(TERMS, "Without any: CONGESTION.", OnwardBoundaries::withoutAnyChoice);
        Sentence.holds(TERMS, UNKNOWN, OnwardBoundaries::noPrefixFitsThere);
        Sentence.holds(TERMS, UNKNOWN, OnwardBoundaries::fewerThanTwoDigits);
        Sentence.holds(TERMS, UNKNOWN, OnwardBoundaries::moreThanTwoAreLeftOut);
        Sentence.holds(TRUNK, "A trunk between two offices: its number.", OnwardBoundaries::trunksHaveNumbers);
        Sentence.holds(TRUNK, "IllegalArgument: also if they are the same.", OnwardBoundaries::theSameOffice);
        Sentence.holds(TRUNK, "IllegalState: there are 16.", OnwardBoundaries::thereAreSixteen);
        Sentence.holds(OUT, "A trunk is out, or not any more: whether it was.", OnwardBoundaries::whetherItWasOut);
        Sentence.holds(OUT, OVER, OnwardBoundaries::atEachStageOfACall);
        Sentence.holds(OUT, OVER, OnwardBoundaries::eitherTrunkOfACall);
        Sentence.holds(OUT, OVER, OnwardBoundaries::onlyTheLineThatCallsHasCongestion);
        Sentence.holds(OUT, "IllegalArgument: there is no such trunk.", OnwardBoundaries::noSuchTrunk);
        Sentence.holds(OVERFLOW, "OVERFLOWS from one office to another one.", OnwardBoundaries::overflowsOfEachPair);
        Sentence.holds(OVERFLOW, "IllegalArgument.", OnwardBoundaries::overflowsOfNoOffice);
    }

    /** Behind 4 office 0 goes to 1, office 1 goes back to 0 or on to 2; the lines of office 2 are behind 4. */
    private static CrossbarNet netWithAWayBack() {
        CrossbarNet net = new CrossbarNet();
        net.trunk(0, 1);
        net.trunk(1, 2);
        net.route(0, 14, 1, 0, 0);
        net.route(1, 14, 0, 0, 0);
        net.route(1, 14, 2, 0, 0);
        net.route(2, 14, 2, 0, 0);
        return net;
    }

    private static void officesOnTheWayArePassed() {
        for (int trunksMore = 0; trunksMore < 2; trunksMore++) {
            CrossbarNet net = netWithAWayBack();
            for (int i = 0; i < trunksMore; i++) {
                net.trunk(0, 1);
            }
            Scene.call(net, 0, 0, "405", 7);
            Check.due("the second choice, trunks more " + trunksMore, Scene.seizedBy(net, 0, 0), "0 5000 5001 2000");
            Check.due("no overflow to an office that is passed", net.overflow(1, 0), 0);
        }
        CrossbarNet net = netWithAWayBack();
        Scene.call(net, 1, 0, "405", 1);
        Check.due("a call that begins there goes by the first choice", Scene.seizedBy(net, 1, 0), "1030 1000 5000 30");
    }

    private static void aCircleIsNotGone() {
        CrossbarNet net = new CrossbarNet();
        for (int office = 0; office < 3; office++) {
            net.trunk(office, (office + 1) % 3);
            net.trunk(office, (office + 1) % 3);
            net.route(office, 14, (office + 1) % 3, 0, 0);
        }
        net.route(2, 14, 1, 0, 0);
        Scene.call(net, 0, 0, "405", 6);
        Check.due("a job in the third office", net.idle(2, 5), 1);
        net.tick(1);
        Check.due("each choice is on its way", net.tone(0, 0), CrossbarNet.CONGESTION);
        Check.due("no overflow", net.overflow(2, 0) + net.overflow(2, 1), 0);
        Check.due("all is idle", Scene.idles(net, 0), "3 12 5 4 0 0");
    }

    private static void noTrunkIsAnOverflow() {
        CrossbarNet net = new CrossbarNet();
        net.route(0, 13, 1, 0, 0);
        net.route(0, 13, 2, 0, 0);
        for (int round = 1; round <= 3; round++) {
            Scene.call(net, 0, 0, "305", 1);
            Check.due("to the first choice", net.overflow(0, 1), round);
            Check.due("to the second choice", net.overflow(0, 2), round);
            net.tick(10);
            Check.due("once for each call", net.overflow(0, 1), round);
            net.hang(0, 0);
        }
        net.trunk(0, 2);
        Scene.call(net, 0, 0, "305", 1);
        Check.due("to the first choice again", net.overflow(0, 1), 4);
        Check.due("none to the second", net.overflow(0, 2), 3);
        Check.due("which is taken", net.seized(0, 0, 3), 2030);
        Check.due("none the other way", net.overflow(1, 0) + net.overflow(2, 0), 0);
    }

    private static void trunksThatAreSeizedOrOutArePassed() {
        CrossbarNet net = new CrossbarNet();
        net.trunk(0, 1);
        net.trunk(1, 0);
        net.trunk(0, 1);
        net.route(0, 13, 1, 0, 0);
        net.route(1, 13, 1, 0, 0);
        net.out(0, true);
        Scene.call(net, 0, 0, "305", 4);
        Check.due("the first is out", net.seized(0, 0, 1), 5001);
        Scene.call(net, 0, 1, "306", 4);
        Check.due("the second is seized", net.seized(0, 1, 1), 5002);
        Scene.call(net, 0, 2, "307", 4);
        Check.due("none is left", net.tone(0, 2), CrossbarNet.CONGESTION);
        Check.due("an overflow", net.overflow(0, 1), 1);
        net.out(0, false);
        Scene.call(net, 0, 3, "307", 4);
        Check.due("the first is not out any more", net.seized(0, 3, 1), 5000);
        Check.due("no overflow", net.overflow(0, 1), 1);
    }

    private static void trunksOfOtherOfficesDoNotServe() {
        CrossbarNet net = new CrossbarNet();
        net.trunk(1, 2);
        net.trunk(2, 0);
        net.route(0, 13, 1, 0, 0);
        Scene.call(net, 0, 0, "305", 1);
        Check.due("no trunk between both", net.tone(0, 0), CrossbarNet.CONGESTION);
        Check.due("an overflow", net.overflow(0, 1), 1);
    }

    private static void theLastRegisterThere() {
        CrossbarNet net = Scene.net();
        net.lift(1, 10);
        net.lift(1, 11);
        Scene.call(net, 0, 0, "305", 1);
        Check.due("the third register", Scene.seizedBy(net, 0, 0), "30 0 5000 1032");
        Check.due("none is idle there", net.idle(1, 0), 0);
    }

    private static void noRegisterThereIsNoOverflow() {
        CrossbarNet net = Scene.net();
        for (int line = 10; line < 13; line++) {
            net.lift(2, line);
        }
        Scene.call(net, 1, 0, "405", 1);
        Check.due("the only choice", net.tone(1, 0), CrossbarNet.CONGESTION);
        Check.due("no overflow", net.overflow(1, 2), 0);
        Check.due("nothing is seized", Scene.idles(net, 1), "3 12 5 2 0 0");
        Scene.call(net, 0, 0, "405", 1);
        Check.due("the second choice", Scene.seizedBy(net, 0, 0), "30 0 5000 1030");
        Check.due("no overflow for the first", net.overflow(0, 2), 0);
    }

    private static void noLinkIsNoOverflow() {
        CrossbarNet net = Scene.wideNet();
        Scene.keepIdle(net, 0);
        Scene.call(net, 0, 4, "405", 1);
        Check.due("no link of its primary", net.tone(0, 4), CrossbarNet.CONGESTION);
        Check.due("no overflow", net.overflow(0, 2) + net.overflow(0, 1), 0);
        Check.due("no register there is seized", net.idle(2, 0), 3);
        Check.due("no trunk is seized", net.idle(2, 3), 8);
        Scene.call(net, 0, 8, "405", 1);
        Check.due("another primary, by the rotor of before", Scene.seizedBy(net, 0, 8), "30 4 5008 2030");
    }

    private static void noLinkIsNeededInBetween() {
        CrossbarNet net = Scene.net();
        net.out(2, true);
        Scene.call(net, 1, 0, "301", 1);
        Scene.call(net, 1, 2, "303", 1);
        Check.due("that primary is full in between", Scene.seizedBy(net, 1, 2), "1002 1021 1003");
        Scene.call(net, 0, 0, "405", 7);
        Check.due("it rings", Scene.seizedBy(net, 0, 0), "0 5000 5001 2000");
        Scene.call(net, 1, 8, "309", 1);
        Check.due("the rotor in between stayed at 3", Scene.seizedBy(net, 1, 8), "1007 1022 1004");
    }

    private static void theLinkGoesByTheRotor() {
        int[] due = {1, 1, 3, 3};
        for (int rotor = 0; rotor < 4; rotor++) {
            CrossbarNet net = Scene.wideNet();
            Scene.keepIdle(net, 0, 1, 3);
            Scene.turnRotor(net, rotor);
            Scene.call(net, 0, 4, "405", 1);
            Check.due("links 1 and 3 are idle, rotor " + rotor, net.seized(0, 4, 1), due[rotor]);
        }
    }

    private static void whatIsSeizedInWhatOrder() {
        CrossbarNet net = Scene.net();
        net.out(2, true);
        String[] due = {"30 8 5000 1030", "30 8 5000 1030", "8 5000 1030", "8 5000 1030 5001 2030",
            "8 5000 1030 5001 2030", "8 5000 5001 2030", "8 5000 5001 2000"};
        Scene.call(net, 0, 16, "405");
        for (int tick = 0; tick < due.length; tick++) {
            net.tick(1);
            Check.due("behind tick " + (tick + 1), Scene.seizedBy(net, 0, 16), due[tick]);
        }
    }

    private static void theRotorGoesOnRound() {
        CrossbarNet net = Scene.wideNet();
        for (int i = 0; i < 4; i++) {
            Scene.call(net, 0, i, Scene.number("3", i), 4);
            Check.due("link " + i, net.seized(0, i, 0), i);
        }
        Scene.call(net, 0, 8, "304", 1);
        Check.due("0 behind 3", net.seized(0, 8, 1), 4);
        net.hang(0, 8);
        net.hang(0, 3);
        Scene.call(net, 0, 4, "303", 1);
        Check.due("the rotor is at 1, link 3 alone is idle", net.seized(0, 4, 1), 3);
        Scene.call(net, 0, 16, "209", 1);
        Check.due("the rotor is behind the link that was seized", Scene.seizedBy(net, 0, 16), "8 20 4");
    }

    private static void allDigitsAreSentTwice() {
        CrossbarNet net = new CrossbarNet();
        net.trunk(0, 1);
        net.trunk(1, 2);
        net.route(0, 1701, 1, 0, 0);
        net.route(1, 1701, 2, 0, 0);
        net.route(2, 1701, 2, 0, 0);
        Scene.call(net, 0, 0, "70123", 5);
        Check.due("five digits", net.idle(1, 5), 1);
        net.tick(4);
        Check.due("four digits more", net.idle(2, 5), 0);
        net.tick(1);
        Check.due("five digits more", net.idle(2, 5), 1);
        net.tick(1);
        Check.due("line 23", net.rings(2, 23), true);
    }

    private static void withoutAnyChoice() {
        CrossbarNet net = Scene.net();
        net.out(0, true);
        net.out(2, true);
        Scene.call(net, 0, 0, "405", 1);
        Check.due("both choices are out", net.tone(0, 0), CrossbarNet.CONGESTION);
        Check.due("all is idle here", Scene.idles(net, 0), "3 12 5 0 0 0");
        net.out(0, false);
        net.tick(20);
        Check.due("it is not tried again", net.tone(0, 0), CrossbarNet.CONGESTION);
        net.out(1, true);
        Scene.call(net, 0, 1, "405", 4);
        Check.due("none from the office in between", net.tone(0, 1), CrossbarNet.CONGESTION);
        Check.due("all is idle there", Scene.idles(net, 1), "3 12 5 1 0 0");
        Check.due("all is idle here again", Scene.idles(net, 0), "3 12 5 1 0 0");
    }

    /** Office 0 sends 305 on to office 1, which has this prefix. */
    private static CrossbarNet netWithPrefixThere(int prefix, int next) {
        CrossbarNet net = new CrossbarNet();
        net.trunk(0, 1);
        net.trunk(1, 2);
        net.route(0, 13, 1, 0, 0);
        net.route(1, prefix, next, 0, 0);
        Scene.call(net, 0, 0, "305", 4);
        return net;
    }

    private static void noPrefixFitsThere() {
        for (int prefix : new int[] {12, 14, 131, 1306, 1035}) {
            CrossbarNet net = netWithPrefixThere(prefix, 1);
            Check.due("prefix there " + prefix, net.tone(0, 0), CrossbarNet.UNKNOWN);
            Check.due("all is idle here", Scene.idles(net, 0), "3 12 5 1 0 0");
            Check.due("all is idle there", Scene.idles(net, 1), "3 12 5 2 0 0");
        }
        CrossbarNet none = new CrossbarNet();
        none.trunk(0, 1);
        none.route(0, 13, 1, 0, 0);
        Scene.call(none, 0, 0, "305", 4);
        Check.due("no prefix at all there", none.tone(0, 0), CrossbarNet.UNKNOWN);
    }

    private static void fewerThanTwoDigits() {
        for (int next = 1; next <= 2; next++) {
            Check.due("one digit, next " + next, netWithPrefixThere(130, next).tone(0, 0), CrossbarNet.UNKNOWN);
            Check.due("no digit, next " + next, netWithPrefixThere(1305, next).tone(0, 0), CrossbarNet.UNKNOWN);
        }
        Check.due("two digits, own", netWithPrefixThere(13, 1).rings(1, 5), true);
        Check.due("two digits, a choice", netWithPrefixThere(13, 2).seized(0, 0, 3), 5001);
    }

    private static void moreThanTwoAreLeftOut() {
        int[] prefixes = {17, 170, 1701};
        int[] lines = {1, 12, 23};
        String[] numbersThere = {"701", "7012", "70123"};
        for (int i = 0; i < prefixes.length; i++) {
            CrossbarNet net = new CrossbarNet();
            net.trunk(0, 1);
            net.route(0, 1701, 1, 0, 0);
            net.route(1, prefixes[i], 1, 0, 0);
            Scene.call(net, 0, 0, "70123", 6);
            Check.due("behind prefix " + prefixes[i], net.rings(1, lines[i]), true);
            Scene.call(net, 1, 9, numbersThere[i], 1);
            Check.due("that line is busy for one there", net.tone(1, 9), CrossbarNet.BUSY);
        }
    }

    private static void trunksHaveNumbers() {
        CrossbarNet net = new CrossbarNet();
        int[][] ends = {{0, 1}, {1, 0}, {0, 2}, {2, 0}, {1, 2}, {2, 1}};
        for (int i = 0; i < 16; i++) {
            Check.due("its number", net.trunk(ends[i % 6][0], ends[i % 6][1]), i);
        }
        Check.due("trunks of office 0", net.idle(0, 3), 12);
        Check.due("trunks of office 1", net.idle(1, 3), 10);
        Check.due("trunks of office 2", net.idle(2, 3), 10);
    }

    private static void theSameOffice() {
        CrossbarNet net = new CrossbarNet();
        for (int office = 0; office < 3; office++) {
            int o = office;
            Check.badArgument("both are office " + o, net, () -> net.trunk(o, o));
            for (int other : new int[] {Integer.MIN_VALUE, -1, 3, Integer.MAX_VALUE}) {
                Check.badArgument("from office " + other, net, () -> net.trunk(other, o));
                Check.badArgument("to office " + other, net, () -> net.trunk(o, other));
            }
        }
        Check.badArgument("neither is an office", net, () -> net.trunk(3, 3));
        Check.due("none of these is there", net.trunk(0, 1), 0);
    }

    private static void thereAreSixteen() {
        CrossbarNet net = new CrossbarNet();
        for (int i = 0; i < 15; i++) {
            net.trunk(0, 1);
        }
        Check.due("the sixteenth", net.trunk(1, 2), 15);
        Check.badState("a seventeenth", net, () -> net.trunk(0, 1));
        Check.badState("a seventeenth elsewhere", net, () -> net.trunk(2, 0));
        Check.badArgument("a seventeenth between the same", net, () -> net.trunk(1, 1));
        Check.badArgument("it has no number", net, () -> net.out(16, true));
        net.out(15, true);
        Check.badState("one that is out counts too", net, () -> net.trunk(0, 1));
    }

    private static void whetherItWasOut() {
        CrossbarNet net = Scene.wideNet();
        for (int trunk : new int[] {0, 15}) {
            Check.due("at first", net.out(trunk, false), false);
            Check.due("not yet", net.out(trunk, true), false);
            Check.due("already", net.out(trunk, true), true);
            Check.due("until now", net.out(trunk, false), true);
            Check.due("not any more", net.out(trunk, false), false);
        }
        net.out(0, true);
        Check.due("others are not", net.out(1, false), false);
    }

    private static void atEachStageOfACall() {
        for (int ticks = 1; ticks <= 8; ticks++) {
            CrossbarNet net = Scene.net();
            String fresh = Scene.idles(net, 0) + Scene.idles(net, 1) + Scene.idles(net, 2);
            net.out(2, true);
            Scene.call(net, 0, 0, "405", ticks);
            if (ticks == 8) {
                net.lift(2, 5);
            }
            net.out(0, true);
            Check.due("tone, ticks " + ticks, net.tone(0, 0), CrossbarNet.CONGESTION);
            Check.due("nothing is seized, ticks " + ticks, net.seized(0, 0, 0), CrossbarNet.NONE);
            Check.due("the line called rings no more", net.rings(2, 5), false);
            Check.due("no job is left", net.idle(1, 5) + net.idle(2, 5), 0);
            net.out(0, false);
            net.out(2, false);
            net.tick(5);
            Check.due("all is idle", Scene.idles(net, 0) + Scene.idles(net, 1) + Scene.idles(net, 2), fresh);
            Check.due("until it hangs up", net.tone(0, 0), CrossbarNet.CONGESTION);
            net.hang(0, 0);
            Check.due("on the hook", net.tone(0, 0), CrossbarNet.SILENCE);
        }
    }

    private static void eitherTrunkOfACall() {
        for (int trunk = 0; trunk < 2; trunk++) {
            CrossbarNet net = Scene.net();
            net.out(2, true);
            Scene.call(net, 0, 0, "405", 7);
            net.lift(2, 5);
            Check.due("it talks", net.talks(2, 5), 0);
            net.out(trunk, false);
            Check.due("a trunk that stays does no harm", net.talks(2, 5), 0);
            net.out(trunk, true);
            Check.due("trunk " + trunk, net.talks(2, 5), CrossbarNet.NONE);
            Check.due("the other trunk is idle", net.idle(1, 3), 1);
        }
        CrossbarNet net = Scene.wideNet();
        Scene.call(net, 0, 0, "305", 4);
        Scene.call(net, 0, 1, "306", 4);
        net.out(0, true);
        Check.due("the call that has it", net.tone(0, 0), CrossbarNet.CONGESTION);
        Check.due("the call that has another one", net.tone(0, 1), CrossbarNet.RINGBACK);
    }

    private static void onlyTheLineThatCallsHasCongestion() {
        CrossbarNet net = Scene.talkOverTrunk();
        net.out(0, true);
        Check.due("the line that calls", net.tone(0, 0), CrossbarNet.CONGESTION);
        Check.due("the line called", net.tone(1, 5), CrossbarNet.BUSY);
        CrossbarNet hungUp = Scene.talkOverTrunk();
        hungUp.hang(1, 5);
        hungUp.out(0, true);
        Check.due("the line called, on the hook", hungUp.tone(1, 5), CrossbarNet.SILENCE);
        Check.due("the line that calls, then", hungUp.tone(0, 0), CrossbarNet.CONGESTION);
        CrossbarNet held = Scene.talkOverTrunk();
        held.hold(1, 5, true);
        held.hang(0, 0);
        held.out(0, true);
        Check.due("the line that calls, on the hook", held.tone(0, 0), CrossbarNet.SILENCE);
        Check.due("the line called, then", held.tone(1, 5), CrossbarNet.BUSY);
        Check.due("a held call is over too", held.seized(0, 0, 0), CrossbarNet.NONE);
    }

    private static void noSuchTrunk() {
        CrossbarNet none = new CrossbarNet();
        for (boolean is : new boolean[] {true, false}) {
            Check.badArgument("trunk 0 of none", none, () -> none.out(0, is));
            CrossbarNet three = Scene.net();
            for (int trunk : new int[] {Integer.MIN_VALUE, -1, 3, 15, 16, Integer.MAX_VALUE}) {
                Check.badArgument("trunk " + trunk + " of three", three, () -> three.out(trunk, is));
            }
            Check.due("the last of three", three.out(2, is), false);
            CrossbarNet sixteen = Scene.wideNet();
            Check.badArgument("trunk 16 of sixteen", sixteen, () -> sixteen.out(16, is));
            Check.due("the last of sixteen", sixteen.out(15, is), false);
        }
    }

    private static void overflowsOfEachPair() {
        for (int from = 0; from < 3; from++) {
            for (int to = 0; to < 3; to++) {
                if (from != to) {
                    CrossbarNet net = new CrossbarNet();
                    net.route(from, 13, to, 0, 0);
                    Scene.call(net, from, 0, "300", 1);
                    Scene.call(net, from, 1, "300", 1);
                    for (int pair = 0; pair < 9; pair++) {
                        boolean isThis = pair == 3 * from + to;
                        Check.due("pair " + pair, net.overflow(pair / 3, pair % 3), isThis ? 2 : 0);
                    }
                }
            }
        }
    }

    private static void overflowsOfNoOffice() {
        CrossbarNet net = new CrossbarNet();
        for (int office : new int[] {Integer.MIN_VALUE, -1, 3, Integer.MAX_VALUE}) {
            for (int other = 0; other < 3; other++) {
                int o = other;
                Check.badArgument("from " + office, net, () -> net.overflow(office, o));
                Check.badArgument("to " + office, net, () -> net.overflow(o, office));
            }
        }
    }
}
