/** What promises 1, 11, 12, 15 and 16 say of the answers that an object gives: the first, the last, none. */
final class AnswerBoundaries {
    private static final String NEW = "Promise 1: A new object";
    private static final String TONE = "Promise 11: tone";
    private static final String RINGS = "Promise 12: rings";
    private static final String SEIZED = "Promise 15: seized";
    private static final String IDLE = "Promise 16: idle";
    private static final String CODES = "What a call that a line calls by has seized, in the order in which it was: i "
            + "from 0 on; 1000 times the office plus: 0 .. 11 a link (4 times its primary plus its secondary), 20 .. 24 "
            + "a junctor, 30 .. 32 a register; or 5000 plus a trunk; NONE if there is none such.";
    private static final String HOW_MANY = "How many of an office are idle: what = 0 registers, 1 links, 2 junctors, 3 "
            + "trunks that end there and are not out; how many there are: 4 lines that wait for a register, 5 JOBS.";

    private AnswerBoundaries() {
    }

    static void all() {
        Sentence.holds(NEW, "Offices as said, without trunks, routes, hunts.", AnswerBoundaries::allIsIdleAtFirst);
        Sentence.holds(NEW, "Offices as said, without trunks, routes, hunts.", AnswerBoundaries::nothingIsSetUp);
        Sentence.holds(TONE, "A line's TONE.", AnswerBoundaries::eachTone);
        Sentence.holds(RINGS, "Whether a line RINGS.", AnswerBoundaries::whatRings);
        Sentence.holds(SEIZED, CODES, AnswerBoundaries::theFirstAndTheLastCodes);
        Sentence.holds(SEIZED, CODES, AnswerBoundaries::behindTheLastThereIsNone);
        Sentence.holds(SEIZED, CODES, AnswerBoundaries::onlyTheLineThatCalls);
        Sentence.holds(SEIZED, "IllegalArgument.", AnswerBoundaries::beforeTheFirst);
        Sentence.holds(IDLE, HOW_MANY, AnswerBoundaries::allAndNoneOfEachKind);
        Sentence.holds(IDLE, HOW_MANY, AnswerBoundaries::trunksThatAreOutOrSeized);
        Sentence.holds(IDLE, "IllegalArgument.", AnswerBoundaries::whatEndsAtFive);
    }

    private static void allIsIdleAtFirst() {
        CrossbarNet net = new CrossbarNet();
        for (int office = 0; office < 3; office++) {
            Check.due("office " + office, Scene.idles(net, office), "3 12 5 0 0 0");
            for (int line = 0; line < 24; line++) {
                Check.due("tone", net.tone(office, line), CrossbarNet.SILENCE);
                Check.due("rings", net.rings(office, line), false);
                Check.due("talks", net.talks(office, line), CrossbarNet.NONE);
                Check.due("meter", net.meter(office, line), 0);
                Check.due("seized", net.seized(office, line, 0), CrossbarNet.NONE);
                Check.due("hold", net.hold(office, line, true), false);
            }
            for (int to = 0; to < 3; to++) {
                Check.due("overflow", net.overflow(office, to), 0);
            }
        }
        net.tick(100);
        Check.due("behind ticks too", Scene.stateOf(net), Scene.stateOf(new CrossbarNet()));
    }

    private static void nothingIsSetUp() {
        CrossbarNet net = new CrossbarNet();
        Check.badArgument("there is no trunk", net, () -> net.out(0, false));
        for (int office = 0; office < 3; office++) {
            net.lift(office, 0);
            net.dial(office, 0, office);
            Check.due("there is no prefix", net.tone(office, 0), CrossbarNet.UNKNOWN);
            for (int hunt = 0; hunt < 4; hunt++) {
                Check.due("there is no line in a hunt", net.hunt(office, hunt, hunt), 1);
            }
        }
        Check.due("the first trunk", net.trunk(2, 1), 0);
    }

    private static void eachTone() {
        CrossbarNet net = Scene.net();
        Check.due("on the hook", net.tone(0, 0), CrossbarNet.SILENCE);
        net.lift(0, 0);
        Check.due("with a register", net.tone(0, 0), CrossbarNet.DIAL);
        Scene.digits(net, 0, 0, "3");
        Check.due("with a digit", net.tone(0, 0), CrossbarNet.SILENCE);
        Scene.digits(net, 0, 0, "23");
        Check.due("a job", net.tone(0, 0), CrossbarNet.SILENCE);
        net.tick(1);
        Check.due("sending", net.tone(0, 0), CrossbarNet.SILENCE);
        net.tick(3);
        Check.due("it rings", net.tone(0, 0), CrossbarNet.RINGBACK);
        Check.due("what rings", net.tone(1, 23), CrossbarNet.SILENCE);
        net.lift(1, 23);
        Check.due("talking", net.tone(0, 0), CrossbarNet.SILENCE);
        net.hang(1, 23);
        Check.due("the called line has hung up", net.tone(0, 0), CrossbarNet.SILENCE);
        net.tick(12);
        Check.due("over", net.tone(0, 0), CrossbarNet.BUSY);
        Scene.call(net, 2, 23, "424", 1);
        Check.due("no such line", net.tone(2, 23), CrossbarNet.UNKNOWN);
        net.out(1, true);
        Scene.call(net, 2, 0, "300", 1);
        Check.due("no trunk", net.tone(2, 0), CrossbarNet.CONGESTION);
    }

    private static void whatRings() {
        CrossbarNet net = Scene.net();
        Scene.call(net, 2, 0, "423");
        Check.due("before the job is done", net.rings(2, 23), false);
        net.tick(1);
        for (int office = 0; office < 3; office++) {
            for (int line = 0; line < 24; line++) {
                Check.due(office + " " + line, net.rings(office, line), office == 2 && line == 23);
            }
        }
        net.tick(100);
        Check.due("it rings on", net.rings(2, 23), true);
        net.lift(2, 23);
        Check.due("lifted", net.rings(2, 23), false);
        net.hang(2, 23);
        Check.due("hung up for now", net.rings(2, 23), false);
    }

    private static void theFirstAndTheLastCodes() {
        CrossbarNet net = Scene.wideNet();
        Scene.keepIdle(net, 0, 3);
        Scene.keepIdle(net, 1);
        Check.due("link 0", net.seized(0, 0, 0), 0);
        Check.due("link 7", net.seized(0, 11, 0), 7);
        Scene.turnRotor(net, 3);
        Scene.call(net, 0, 16, "205", 1);
        Check.due("link 11, junctor 20, link 3", Scene.seizedBy(net, 0, 16), "11 20 3");
        for (int line = 20; line < 23; line++) {
            net.lift(2, line);
        }
        Check.due("register 0 of office 2", net.seized(2, 20, 0), 2030);
        Check.due("register 2 of office 2", net.seized(2, 22, 0), 2032);
        net.hang(2, 20);
        for (int trunk = 12; trunk < 15; trunk++) {
            net.out(trunk, true);
        }
        Scene.call(net, 1, 16, "423", 4);
        Check.due("the last trunk", net.seized(1, 16, 1), 5015);
        Check.due("a link of office 2", net.seized(1, 16, 2), 2008);
    }

    private static void behindTheLastThereIsNone() {
        CrossbarNet net = Scene.net();
        net.lift(0, 0);
        int[] behind = {1, 2, 8, 24, 1000, Integer.MAX_VALUE};
        for (int i : behind) {
            Check.due("a register alone, i = " + i, net.seized(0, 0, i), CrossbarNet.NONE);
        }
        net.out(2, true);
        Scene.digits(net, 0, 0, "405");
        net.tick(4);
        Check.due("the most that a call has", net.seized(0, 0, 4), 2030);
        Check.due("behind it", net.seized(0, 0, 5), CrossbarNet.NONE);
        net.hang(0, 0);
        Check.due("without a call", net.seized(0, 0, 0), CrossbarNet.NONE);
    }

    private static void onlyTheLineThatCalls() {
        CrossbarNet net = Scene.talkWithin();
        Check.due("the line that calls", Scene.seizedBy(net, 0, 0), "0 20 1");
        Check.due("the line called", net.seized(0, 5, 0), CrossbarNet.NONE);
        net.hang(0, 5);
        Check.due("the line called, hung up", net.seized(0, 5, 0), CrossbarNet.NONE);
        net.hold(0, 5, true);
        net.hang(0, 0);
        Check.due("the line that calls, hung up", Scene.seizedBy(net, 0, 0), "0 20 1");
        Check.due("the same line of another office", net.seized(1, 0, 0), CrossbarNet.NONE);
    }

    private static void beforeTheFirst() {
        CrossbarNet net = Scene.talkWithin();
        for (int i : new int[] {-1, Integer.MIN_VALUE}) {
            Check.badArgument("of a call, i = " + i, net, () -> net.seized(0, 0, i));
            Check.badArgument("without a call, i = " + i, net, () -> net.seized(1, 0, i));
        }
        Check.badPlaces("seized", net, (office, line) -> net.seized(office, line, 0));
    }

    private static void allAndNoneOfEachKind() {
        CrossbarNet net = Scene.net();
        for (int line = 0; line < 6; line++) {
            net.lift(0, line);
        }
        Check.due("no register, three lines wait", Scene.idles(net, 0), "0 12 5 2 3 0");
        for (int line = 0; line < 3; line++) {
            Scene.digits(net, 0, line, "21" + line);
            Check.due("jobs", net.idle(0, 5), line + 1);
        }
        net.tick(1);
        Check.due("one rings", Scene.idles(net, 0), "0 10 4 2 2 2");
        net.tick(1);
        Check.due("two ring", Scene.idles(net, 0), "0 8 3 2 1 1");
        net.tick(1);
        Check.due("three ring", Scene.idles(net, 0), "0 6 2 2 0 0");
        Check.due("office 1 is as it was", Scene.idles(net, 1), "3 12 5 2 0 0");
        for (int line = 0; line < 6; line++) {
            net.hang(0, line);
        }
        Check.due("all is idle", Scene.idles(net, 0), "3 12 5 2 0 0");
    }

    private static void trunksThatAreOutOrSeized() {
        CrossbarNet net = Scene.net();
        Check.due("each office has two", net.idle(0, 3) + " " + net.idle(1, 3) + " " + net.idle(2, 3), "2 2 2");
        net.out(1, true);
        Check.due("one is out", net.idle(0, 3) + " " + net.idle(1, 3) + " " + net.idle(2, 3), "2 1 1");
        Scene.call(net, 0, 0, "305", 1);
        Check.due("one is seized", net.idle(0, 3) + " " + net.idle(1, 3) + " " + net.idle(2, 3), "1 0 1");
        net.out(0, true);
        Check.due("it is out now", net.idle(0, 3) + " " + net.idle(1, 3) + " " + net.idle(2, 3), "1 0 1");
        net.out(0, false);
        Check.due("it is idle", net.idle(0, 3) + " " + net.idle(1, 3) + " " + net.idle(2, 3), "2 1 1");
        net.out(2, true);
        net.out(2, true);
        Check.due("out twice", net.idle(0, 3) + " " + net.idle(1, 3) + " " + net.idle(2, 3), "1 1 0");
    }

    private static void whatEndsAtFive() {
        CrossbarNet net = Scene.net();
        for (int office = 0; office < 3; office++) {
            int o = office;
            for (int what : new int[] {Integer.MIN_VALUE, -1, 6, Integer.MAX_VALUE}) {
                Check.badArgument("what = " + what, net, () -> net.idle(o, what));
            }
        }
        for (int what = 0; what <= 5; what++) {
            int w = what;
            for (int office : new int[] {Integer.MIN_VALUE, -1, 3, Integer.MAX_VALUE}) {
                Check.badArgument("office " + office, net, () -> net.idle(office, w));
            }
        }
    }
}
