/** What the terms and promise 3 say of routes: prefixes of one, two and three digits, choices, units and periods. */
final class RouteBoundaries {
    private static final String TERMS = "Terms";
    private static final String PROMISE = "Promise 3: route";
    private static final String PREFIX = "ROUTES of an office: a PREFIX of 1 to 3 digits is OWN (the two digits behind "
            + "it are a line of this office), or has up to three CHOICES, offices one after the other; it also has "
            + "UNITS and a PERIOD.";
    private static final String DIGITS = "A prefix (its digits in decimal, behind a 1: 107 is 07) is OWN, if next is "
            + "the office itself, or has one CHOICE more: how many it has (0: OWN).";
    private static final String ARGUMENT = "IllegalArgument: also if prefix is not 10 .. 19, 100 .. 199, 1000 .. 1999, "
            + "units not 0 .. 99, period not 0 .. 1000.";
    private static final String STATE = "IllegalState: it begins with another one, or another one begins with it; it is "
            + "OWN, or has CHOICES and would be OWN, or has three, or this one already; there are 12 prefixes.";

    private RouteBoundaries() {
    }

    static void all() {
        Sentence.holds(TERMS, PREFIX, RouteBoundaries::prefixesOfOneTwoAndThreeDigits);
        Sentence.holds(TERMS, PREFIX, RouteBoundaries::choicesAreOfficesOneAfterTheOther);
        Sentence.holds(TERMS, "No prefix begins with another one.", RouteBoundaries::noPrefixBeginsWithAnother);
        Sentence.holds(TERMS, "A NUMBER is a prefix and two digits.", RouteBoundaries::twoDigitsBehindThePrefix);
        Sentence.holds(PROMISE, DIGITS, RouteBoundaries::theOneInFrontKeepsNoughts);
        Sentence.holds(PROMISE, DIGITS, RouteBoundaries::answersHowManyChoices);
        Sentence.holds(PROMISE, "UNITS and PERIOD are these from now on.", RouteBoundaries::unitsAndPeriodAreTheNewest);
        Sentence.holds(PROMISE, ARGUMENT, RouteBoundaries::prefixesOutsideTheirRanges);
        Sentence.holds(PROMISE, ARGUMENT, RouteBoundaries::unitsOutsideTheirRange);
        Sentence.holds(PROMISE, ARGUMENT, RouteBoundaries::periodsOutsideTheirRange);
        Sentence.holds(PROMISE, STATE, RouteBoundaries::prefixesThatClash);
        Sentence.holds(PROMISE, STATE, RouteBoundaries::whatIsOwnStaysOwn);
        Sentence.holds(PROMISE, STATE, RouteBoundaries::choicesAreEachOthers);
        Sentence.holds(PROMISE, STATE, RouteBoundaries::thereAreTwelvePrefixes);
        Sentence.holds(PROMISE, STATE, RouteBoundaries::aRefusedRouteLeavesUnitsAndPeriod);
    }

    private static void prefixesOfOneTwoAndThreeDigits() {
        CrossbarNet net = new CrossbarNet();
        net.route(0, 10, 0, 0, 0);
        net.route(0, 110, 0, 0, 0);
        net.route(0, 1999, 0, 0, 0);
        String[] prefixes = {"0", "10", "999"};
        for (int i = 0; i < prefixes.length; i++) {
            Scene.call(net, 0, i, prefixes[i]);
            Check.due("a prefix alone is no job", net.idle(0, 5), 0);
            Scene.digits(net, 0, i, Scene.number("", 21 + i));
            Check.due("two digits behind " + prefixes[i], net.idle(0, 5), 1);
            net.tick(1);
            Check.due("the line behind " + prefixes[i], net.rings(0, 21 + i), true);
        }
    }

    private static void choicesAreOfficesOneAfterTheOther() {
        for (int first = 1; first <= 2; first++) {
            CrossbarNet net = new CrossbarNet();
            net.trunk(0, 1);
            net.trunk(0, 2);
            net.route(0, 17, first, 0, 0);
            net.route(0, 17, 3 - first, 0, 0);
            Scene.call(net, 0, 0, "700", 1);
            Check.due("the first choice", net.seized(0, 0, 3), 1000 * first + 30);
            Scene.call(net, 0, 1, "700", 1);
            Check.due("the second choice", net.seized(0, 1, 3), 1000 * (3 - first) + 30);
            Scene.call(net, 0, 2, "700", 1);
            Check.due("behind the last choice", net.tone(0, 2), CrossbarNet.CONGESTION);
        }
    }

    private static void noPrefixBeginsWithAnother() {
        int[] noughts = {10, 100, 1000};
        for (int there : noughts) {
            for (int more : noughts) {
                CrossbarNet net = new CrossbarNet();
                net.route(0, there, 1, 0, 0);
                if (there != more) {
                    Check.badState(more + " behind " + there, net, () -> net.route(0, more, 1, 0, 0));
                }
                Check.due(more + " in another office", net.route(2, more, 1, 0, 0), 1);
            }
        }
    }

    private static void twoDigitsBehindThePrefix() {
        CrossbarNet net = new CrossbarNet();
        net.route(0, 150, 0, 0, 0);
        Scene.call(net, 0, 0, "500");
        Check.due("one digit behind it", net.idle(0, 5), 0);
        net.tick(1);
        Check.due("one digit behind it, a tick later", net.seized(0, 0, 0), 30);
        Check.due("the second one is taken", net.dial(0, 0, 9), true);
        Check.due("the number is a job", net.idle(0, 5), 1);
        Check.due("a third one is not taken", net.dial(0, 0, 9), false);
        net.tick(1);
        Check.due("line 09", net.rings(0, 9), true);
    }

    private static void theOneInFrontKeepsNoughts() {
        CrossbarNet net = new CrossbarNet();
        net.route(0, 107, 0, 0, 0);
        net.route(0, 17, 1, 0, 0);
        net.route(0, 1007, 0, 0, 0);
        Scene.call(net, 0, 0, "0711", 1);
        Check.due("07", net.rings(0, 11), true);
        Scene.call(net, 0, 1, "00712", 1);
        Check.due("007", net.rings(0, 12), true);
        Scene.call(net, 0, 2, "712", 1);
        Check.due("7 has a choice and no trunk", net.tone(0, 2), CrossbarNet.CONGESTION);
        Scene.call(net, 0, 3, "1");
        Check.due("the 1 in front is no digit", net.tone(0, 3), CrossbarNet.UNKNOWN);
    }

    private static void answersHowManyChoices() {
        CrossbarNet net = new CrossbarNet();
        for (int office = 0; office < 3; office++) {
            Check.due("own", net.route(office, 10, office, 0, 0), 0);
            Check.due("one choice", net.route(office, 11, (office + 1) % 3, 0, 0), 1);
            Check.due("two choices", net.route(office, 11, (office + 2) % 3, 0, 0), 2);
            Check.due("one choice of another prefix", net.route(office, 12, (office + 2) % 3, 0, 0), 1);
        }
    }

    private static void unitsAndPeriodAreTheNewest() {
        CrossbarNet net = Scene.net();
        net.route(0, 13, 2, 40, 3);
        Scene.call(net, 0, 0, "305", 4);
        net.lift(1, 5);
        Check.due("the units of the second choice count for both", net.meter(0, 0), 40);
        net.tick(3);
        Check.due("so does its period", net.meter(0, 0), 80);
        Scene.call(net, 0, 1, "406", 4);
        net.lift(2, 6);
        Check.due("other prefixes keep theirs", net.meter(0, 1), 5);
        Scene.call(net, 1, 7, "308", 1);
        net.lift(1, 8);
        Check.due("the same prefix of another office keeps its own", net.meter(1, 7), 8);
    }

    private static void prefixesOutsideTheirRanges() {
        CrossbarNet net = new CrossbarNet();
        int[] bad = {Integer.MIN_VALUE, -1999, -10, -1, 0, 1, 9, 20, 99, 200, 999, 2000, 10000, 19999,
            Integer.MAX_VALUE};
        for (int prefix : bad) {
            Check.badArgument("own " + prefix, net, () -> net.route(0, prefix, 0, 0, 0));
            Check.badArgument("choice " + prefix, net, () -> net.route(0, prefix, 1, 0, 0));
        }
        for (int prefix : new int[] {10, 19, 100, 199, 1000, 1999}) {
            CrossbarNet other = new CrossbarNet();
            Check.due("own " + prefix, other.route(0, prefix, 0, 0, 0), 0);
            Check.due("choice " + prefix, other.route(1, prefix, 0, 0, 0), 1);
        }
    }

    private static void unitsOutsideTheirRange() {
        CrossbarNet net = new CrossbarNet();
        for (int units : new int[] {Integer.MIN_VALUE, -1, 100, Integer.MAX_VALUE}) {
            Check.badArgument("units " + units, net, () -> net.route(0, 12, 0, units, 0));
        }
        for (int units : new int[] {0, 99}) {
            CrossbarNet other = new CrossbarNet();
            other.route(0, 12, 0, units, 0);
            Scene.call(other, 0, 0, "201", 1);
            other.lift(0, 1);
            Check.due("units " + units, other.meter(0, 0), units);
        }
    }

    private static void periodsOutsideTheirRange() {
        CrossbarNet net = new CrossbarNet();
        for (int period : new int[] {Integer.MIN_VALUE, -1, 1001, Integer.MAX_VALUE}) {
            Check.badArgument("period " + period, net, () -> net.route(0, 12, 0, 0, period));
        }
        for (int period : new int[] {0, 1, 1000}) {
            Check.due("period " + period, new CrossbarNet().route(0, 12, 1, 0, period), 1);
        }
    }

    private static void prefixesThatClash() {
        CrossbarNet net = new CrossbarNet();
        net.route(0, 123, 0, 0, 0);
        net.route(0, 1456, 1, 0, 0);
        net.route(0, 17, 2, 0, 0);
        for (int prefix : new int[] {1230, 1239, 170, 179, 1700, 1799}) {
            Check.badState("it begins with another one: " + prefix, net, () -> net.route(0, prefix, 0, 0, 0));
            Check.badState("the same with a choice: " + prefix, net, () -> net.route(0, prefix, 1, 0, 0));
        }
        for (int prefix : new int[] {12, 14, 145}) {
            Check.badState("another one begins with it: " + prefix, net, () -> net.route(0, prefix, 0, 0, 0));
            Check.badState("the same with a choice: " + prefix, net, () -> net.route(0, prefix, 1, 0, 0));
        }
        for (int prefix : new int[] {122, 124, 1455, 1457, 16, 18, 1076}) {
            Check.due("beside them: " + prefix, net.route(0, prefix, 0, 0, 0), 0);
        }
        Check.due("in another office", net.route(1, 12, 1, 0, 0), 0);
    }

    private static void whatIsOwnStaysOwn() {
        CrossbarNet net = new CrossbarNet();
        net.route(0, 12, 0, 0, 0);
        net.route(0, 13, 1, 0, 0);
        for (int next = 0; next < 3; next++) {
            int office = next;
            Check.badState("it is own, next " + next, net, () -> net.route(0, 12, office, 0, 0));
        }
        Check.badState("it has a choice and would be own", net, () -> net.route(0, 13, 0, 0, 0));
        net.route(0, 13, 2, 0, 0);
        Check.badState("it has two and would be own", net, () -> net.route(0, 13, 0, 0, 0));
        Scene.call(net, 0, 0, "207", 1);
        Check.due("still own", net.rings(0, 7), true);
        Scene.call(net, 0, 1, "308", 1);
        Check.due("still not own", net.tone(0, 1), CrossbarNet.CONGESTION);
    }

    /** There are but two other offices: a third choice is always one that the prefix has, or the office itself. */
    private static void choicesAreEachOthers() {
        CrossbarNet net = new CrossbarNet();
        net.route(1, 13, 0, 0, 0);
        Check.badState("this one already", net, () -> net.route(1, 13, 0, 0, 0));
        net.route(1, 13, 2, 0, 0);
        for (int next = 0; next < 3; next++) {
            int office = next;
            Check.badState("a third choice, next " + next, net, () -> net.route(1, 13, office, 0, 0));
        }
    }

    private static void thereAreTwelvePrefixes() {
        CrossbarNet net = new CrossbarNet();
        for (int i = 0; i < 12; i++) {
            Check.due("prefix " + i, net.route(2, 1100 + i, i % 3, 0, 0), i % 3 == 2 ? 0 : 1);
        }
        Check.badState("a thirteenth", net, () -> net.route(2, 13, 0, 0, 0));
        Check.badState("a thirteenth that would be own", net, () -> net.route(2, 13, 2, 0, 0));
        Check.badArgument("a thirteenth that is no prefix", net, () -> net.route(2, 20, 2, 0, 0));
        Scene.call(net, 2, 0, "3");
        Check.due("it is not there", net.tone(2, 0), CrossbarNet.UNKNOWN);
        Scene.call(net, 2, 1, "11102", 1);
        Check.due("the twelfth is there", net.rings(2, 2), true);
        Check.due("other offices have room", net.route(1, 13, 1, 0, 0), 0);
    }

    private static void aRefusedRouteLeavesUnitsAndPeriod() {
        CrossbarNet net = Scene.net();
        Check.badState("this one already", net, () -> net.route(0, 13, 1, 50, 1));
        Check.badState("would be own", net, () -> net.route(0, 13, 0, 51, 1));
        Check.badArgument("units of 100", net, () -> net.route(0, 13, 2, 100, 1));
        Check.badArgument("a period of 1001", net, () -> net.route(0, 13, 2, 52, 1001));
        Check.badState("is own", net, () -> net.route(0, 12, 0, 53, 1));
        Scene.call(net, 0, 0, "305", 4);
        net.lift(1, 5);
        net.tick(4);
        Check.due("the units of before", net.meter(0, 0), 3);
        net.tick(1);
        Check.due("the period of before", net.meter(0, 0), 6);
        Scene.call(net, 0, 1, "206", 1);
        net.lift(0, 6);
        net.tick(9);
        Check.due("an own prefix's units of before", net.meter(0, 1), 1);
    }
}
