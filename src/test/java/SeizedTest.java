/** Promise 15: seized. */
public final class SeizedTest {
    public static void main(String[] args) {
        wrongNumbers();
        withinAnOffice();
        theRotorGoesRound();
        overThreeOffices();
        waysThatAreFull();
        aLinkOfTheCallerIsNeededForATrunk();
        Check.finish();
    }

    private static void wrongNumbers() {
        CrossbarNet net = Scene.talkWithin();
        Check.badPlaces("seized", net, (office, line) -> net.seized(office, line, 0));
        Check.badArgument("i = -1", net, () -> net.seized(0, 0, -1));
        Check.badArgument("i = -1 of a line without a call", net, () -> net.seized(0, 9, -1));
        Check.due("i behind the last", net.seized(0, 0, 3), CrossbarNet.NONE);
        Check.due("i far behind", net.seized(0, 0, Integer.MAX_VALUE), CrossbarNet.NONE);
        Check.due("the line called", net.seized(0, 5, 0), CrossbarNet.NONE);
    }

    private static void withinAnOffice() {
        CrossbarNet net = Scene.net();
        Scene.call(net, 1, 17, "309");
        Check.due("a job", Scene.seizedBy(net, 1, 17), "1030");
        net.tick(1);
        Check.due("links of two primaries, by the rotor", Scene.seizedBy(net, 1, 17), "1008 1020 1004");
        Scene.call(net, 1, 16, "310");
        net.tick(1);
        Check.due("the rotor is at 1", Scene.seizedBy(net, 1, 16), "1009 1021 1005");
        net.hang(1, 17);
        Scene.call(net, 1, 0, "301");
        net.tick(1);
        Check.due("the rotor is at 2, the first junctor", Scene.seizedBy(net, 1, 0), "1002 1020 1003");
        Scene.call(net, 1, 18, "311");
        net.tick(1);
        Check.due("the rotor is at 3", Scene.seizedBy(net, 1, 18), "1011 1022 1007");
        Scene.call(net, 1, 8, "302");
        net.tick(1);
        Check.due("the rotor is at 0 again", Scene.seizedBy(net, 1, 8), "1004 1023 1000");
    }

    private static void theRotorGoesRound() {
        CrossbarNet net = Scene.net();
        Scene.call(net, 0, 0, "305");
        net.tick(4);
        Check.due("by a trunk: one link there", Scene.seizedBy(net, 0, 0), "0 5000 1000");
        Check.due("no junctor there", net.idle(1, 2), 5);
        Check.due("no junctor here", net.idle(0, 2), 5);
        Scene.call(net, 0, 1, "202");
        net.tick(1);
        Check.due("the rotor went on here", Scene.seizedBy(net, 0, 1), "1 20 2");
        Scene.call(net, 1, 1, "302");
        net.tick(1);
        Check.due("the rotor went on there", Scene.seizedBy(net, 1, 1), "1001 1020 1002");
    }

    private static void overThreeOffices() {
        CrossbarNet net = Scene.net();
        net.out(2, true);
        Scene.call(net, 0, 0, "405");
        net.tick(1);
        Check.due("to office 1", Scene.seizedBy(net, 0, 0), "30 0 5000 1030");
        net.tick(2);
        Check.due("there", Scene.seizedBy(net, 0, 0), "0 5000 1030");
        net.tick(1);
        Check.due("to office 2", Scene.seizedBy(net, 0, 0), "0 5000 1030 5001 2030");
        net.tick(2);
        Check.due("there", Scene.seizedBy(net, 0, 0), "0 5000 5001 2030");
        net.tick(1);
        Check.due("rings", Scene.seizedBy(net, 0, 0), "0 5000 5001 2000");
        Scene.call(net, 1, 0, "301");
        net.tick(1);
        Check.due("going through moves no rotor", Scene.seizedBy(net, 1, 0), "1000 1020 1001");
    }

    private static void waysThatAreFull() {
        CrossbarNet net = Scene.net();
        Scene.call(net, 0, 0, "201");
        net.tick(1);
        Scene.call(net, 0, 2, "208");
        net.tick(1);
        Scene.call(net, 0, 3, "204");
        net.tick(1);
        Check.due("one link is left, two are needed", net.tone(0, 3), CrossbarNet.CONGESTION);
        Scene.call(net, 0, 16, "205");
        net.tick(1);
        Check.due("it serves another primary; the rotor is where it was", Scene.seizedBy(net, 0, 16), "11 22 3");
        Scene.call(net, 0, 9, "217");
        net.tick(1);
        Check.due("the rotor is at 0 again", Scene.seizedBy(net, 0, 9), "4 23 8");
        Scene.call(net, 0, 10, "218");
        net.tick(1);
        Check.due("the last junctor", Scene.seizedBy(net, 0, 10), "6 24 9");
        Scene.call(net, 0, 11, "219");
        net.tick(1);
        Check.due("no junctor", net.tone(0, 11), CrossbarNet.CONGESTION);
        Check.due("nothing is seized", net.seized(0, 11, 0), CrossbarNet.NONE);
    }

    private static void aLinkOfTheCallerIsNeededForATrunk() {
        CrossbarNet net = Scene.net();
        Scene.call(net, 0, 0, "201");
        net.tick(1);
        Scene.call(net, 0, 2, "203");
        net.tick(1);
        Scene.call(net, 0, 4, "305");
        net.tick(1);
        Check.due("no link", net.tone(0, 4), CrossbarNet.CONGESTION);
        Check.due("no trunk is seized", net.idle(0, 3), 2);
        Check.due("no register there is seized", net.idle(1, 0), 3);
        Check.due("no overflow", net.overflow(0, 1), 0);
        Scene.call(net, 1, 4, "205");
        net.tick(4);
        Check.due("no link for a call that comes by a trunk", net.tone(1, 4), CrossbarNet.CONGESTION);
        Check.due("all is idle there", Scene.idles(net, 1), "3 12 5 2 0 0");
    }
}
