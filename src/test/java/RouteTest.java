/** Promise 3: route. */
public final class RouteTest {
    public static void main(String[] args) {
        answersHowManyChoices();
        refusesWrongNumbers();
        refusesPrefixesThatClash();
        keepsTwelvePrefixes();
        leadingZerosCount();
        choicesAreTriedInOrder();
        Check.finish();
    }

    private static void answersHowManyChoices() {
        CrossbarNet net = new CrossbarNet();
        Check.due("own", net.route(0, 10, 0, 0, 0), 0);
        Check.due("one choice", net.route(0, 119, 1, 99, 1000), 1);
        Check.due("two choices", net.route(0, 119, 2, 0, 0), 2);
        Check.badState("a choice twice", net, () -> net.route(0, 119, 1, 0, 0));
        Check.badState("choices, then own", net, () -> net.route(0, 119, 0, 0, 0));
        Check.badState("own, then a choice", net, () -> net.route(0, 10, 1, 0, 0));
        Check.badState("own, then own", net, () -> net.route(0, 10, 0, 0, 0));
        Check.due("the same prefix in another office", net.route(1, 10, 0, 0, 0), 1);
        Check.due("a choice more for the first prefix of an office", net.route(1, 10, 2, 0, 0), 2);
    }

    private static void refusesWrongNumbers() {
        CrossbarNet net = new CrossbarNet();
        for (int prefix : new int[] {Integer.MIN_VALUE, -12, 0, 1, 9, 20, 99, 200, 999, 2000, Integer.MAX_VALUE}) {
            Check.badArgument("prefix " + prefix, net, () -> net.route(0, prefix, 0, 0, 0));
        }
        Check.badArgument("office -1", net, () -> net.route(-1, 12, 0, 0, 0));
        Check.badArgument("office 3", net, () -> net.route(3, 12, 0, 0, 0));
        Check.badArgument("next -1", net, () -> net.route(0, 12, -1, 0, 0));
        Check.badArgument("next 3", net, () -> net.route(0, 12, 3, 0, 0));
        Check.badArgument("units -1", net, () -> net.route(0, 12, 0, -1, 0));
        Check.badArgument("units 100", net, () -> net.route(0, 12, 0, 100, 0));
        Check.badArgument("period -1", net, () -> net.route(0, 12, 0, 0, -1));
        Check.badArgument("period 1001", net, () -> net.route(0, 12, 0, 0, 1001));
        for (int prefix : new int[] {10, 110, 1110, 1999, 198, 12}) {
            Check.due("prefix " + prefix, net.route(0, prefix, 0, 99, 1000), 0);
        }
        Check.badArgument("argument before state", net, () -> net.route(0, 12, 0, 100, 0));
    }

    private static void refusesPrefixesThatClash() {
        CrossbarNet net = new CrossbarNet();
        net.route(0, 123, 0, 0, 0);
        Check.badState("another one begins with it", net, () -> net.route(0, 12, 0, 0, 0));
        Check.badState("it begins with another one", net, () -> net.route(0, 1237, 1, 0, 0));
        Check.due("a neighbour", net.route(0, 124, 0, 0, 0), 0);
        net.route(0, 1567, 1, 0, 0);
        Check.badState("one digit of three", net, () -> net.route(0, 15, 1, 0, 0));
        Check.badState("two digits of three", net, () -> net.route(0, 156, 1, 0, 0));
        Check.due("the same start elsewhere", net.route(1, 15, 1, 0, 0), 0);
        Check.badState("three digits behind one", net, () -> net.route(1, 1567, 1, 0, 0));
    }

    private static void keepsTwelvePrefixes() {
        CrossbarNet net = new CrossbarNet();
        for (int i = 0; i < 12; i++) {
            Check.due("prefix", net.route(0, 110 + i, 1, 0, 0), 1);
        }
        Check.badState("a 13th prefix", net, () -> net.route(0, 130, 1, 0, 0));
        Check.badState("a 13th prefix, own", net, () -> net.route(0, 130, 0, 0, 0));
        Check.due("a choice more for one of twelve", net.route(0, 115, 2, 0, 0), 2);
        Check.due("another office has room", net.route(1, 130, 1, 0, 0), 0);
    }

    private static void leadingZerosCount() {
        CrossbarNet net = new CrossbarNet();
        net.route(0, 107, 0, 0, 0);
        net.route(0, 1000, 0, 0, 0);
        Scene.call(net, 0, 0, "0711");
        Scene.call(net, 0, 1, "00012");
        Scene.call(net, 0, 2, "7");
        Check.due("7 is not 07", net.tone(0, 2), CrossbarNet.UNKNOWN);
        net.tick(2);
        Check.due("behind 07", net.rings(0, 11), true);
        Check.due("behind 000", net.rings(0, 12), true);
        CrossbarNet nought = new CrossbarNet();
        nought.route(0, 10, 0, 0, 0);
        Scene.call(nought, 0, 0, "01");
        Check.due("one digit behind 0", nought.idle(0, 5), 0);
        Scene.digits(nought, 0, 0, "3");
        nought.tick(1);
        Check.due("behind 0", nought.rings(0, 13), true);
    }

    private static void choicesAreTriedInOrder() {
        CrossbarNet net = Scene.net();
        Scene.call(net, 0, 0, "405");
        net.tick(1);
        Check.due("the first choice", Scene.seizedBy(net, 0, 0), "30 0 5002 2030");
        Scene.call(net, 0, 1, "406");
        net.tick(1);
        Check.due("the second choice", Scene.seizedBy(net, 0, 1), "31 1 5000 1030");
    }
}
