/** What the terms and promise 8 say of ticks: what comes first in one, and what comes with the next one only. */
final class TickBoundaries {
    private static final String TERMS = "Terms";
    private static final String PROMISE = "Promise 8: tick";
    private static final String JOBS = "A TICK: first each office, 0 to 2, does its oldest JOB, if that was there when "
            + "the tick began.";
    private static final String SENDING = "Then each register that is SENDING, by office and number, has one digit less "
            + "to send; with the last one it is free, and the register in the next office has the number, which is a "
            + "JOB there.";
    private static final String TIME = "Then all that waits for time (a digit, a PERIOD, the end of a call) has one tick "
            + "more.";
    private static final String REGISTERS = "Then, in each office, as long as a register is idle and a line waits, the "
            + "one that has waited longest seizes the first one.";

    private TickBoundaries() {
    }

    static void all() {
        Sentence.holds(PROMISE, "So many TICKS, 1 .. 100.", TickBoundaries::oneAndAHundred);
        Sentence.holds(PROMISE, "IllegalArgument.", TickBoundaries::noughtAndAHundredAndOne);
        Sentence.holds(TERMS, JOBS, TickBoundaries::oneJobForEachOffice);
        Sentence.holds(TERMS, JOBS, TickBoundaries::theOldestOneThatIsLeft);
        Sentence.holds(TERMS, JOBS, TickBoundaries::aNumberThatCameInThisTickIsLeft);
        Sentence.holds(TERMS, JOBS, TickBoundaries::officesGoByTheirNumber);
        Sentence.holds(TERMS, JOBS, TickBoundaries::whatAnEarlierOfficeFreesIsIdle);
        Sentence.holds(TERMS, SENDING, TickBoundaries::threeFourAndFiveDigits);
        Sentence.holds(TERMS, SENDING, TickBoundaries::noughtsAreSentToo);
        Sentence.holds(TERMS, SENDING, TickBoundaries::theLastDigitFreesTheRegister);
        Sentence.holds(TERMS, SENDING, TickBoundaries::numbersComeByOffice);
        Sentence.holds(TERMS, SENDING, TickBoundaries::numbersComeByRegister);
        Sentence.holds(TERMS, SENDING, TickBoundaries::numbersComeBehindTheJobsThatAreThere);
        Sentence.holds(TERMS, TIME, TickBoundaries::aCallThatEndsIsThereForTheJobs);
        Sentence.holds(TERMS, TIME, TickBoundaries::aRegisterThatWaitedIsSeizedForTheJobs);
        Sentence.holds(TERMS, TIME, TickBoundaries::aTrunkThatEndsIsSeizedForTheJobs);
        Sentence.holds(TERMS, TIME, TickBoundaries::eachTickCountsOnce);
        Sentence.holds(TERMS, REGISTERS, TickBoundaries::theLongestWaitingLineIsTheFirst);
        Sentence.holds(TERMS, REGISTERS, TickBoundaries::moreRegistersThanLines);
        Sentence.holds(TERMS, REGISTERS, TickBoundaries::whoHangsUpLosesItsPlace);
        Sentence.holds(TERMS, REGISTERS, TickBoundaries::registersOfThisTickAreGiven);
        Sentence.holds(TERMS, REGISTERS, TickBoundaries::eachOfficeGivesItsOwn);
        Sentence.holds(TERMS, REGISTERS, TickBoundaries::aJobTakesARegisterBeforeThoseWhoWait);
    }

    private static void oneAndAHundred() {
        CrossbarNet one = new CrossbarNet();
        one.route(0, 12, 0, 1, 1);
        Scene.call(one, 0, 0, "201", 1);
        one.lift(0, 1);
        one.tick(1);
        Check.due("one tick", one.meter(0, 0), 2);
        one.tick(100);
        Check.due("a hundred ticks", one.meter(0, 0), 102);
        one.tick(99);
        Check.due("ninety-nine ticks", one.meter(0, 0), 201);
    }

    private static void noughtAndAHundredAndOne() {
        CrossbarNet net = new CrossbarNet();
        net.route(0, 12, 0, 1, 1);
        Scene.call(net, 0, 0, "201", 1);
        net.lift(0, 1);
        for (int many : new int[] {Integer.MIN_VALUE, -1, 0, 101, Integer.MAX_VALUE}) {
            Check.badArgument("tick(" + many + ")", net, () -> net.tick(many));
        }
        Check.due("no tick went by", net.meter(0, 0), 1);
    }

    private static void oneJobForEachOffice() {
        CrossbarNet net = Scene.net();
        for (int office = 0; office < 3; office++) {
            Scene.call(net, office, 0, 2 + office + "08");
            Scene.call(net, office, 1, 2 + office + "09");
        }
        net.tick(1);
        for (int office = 0; office < 3; office++) {
            Check.due("the oldest of office " + office, net.rings(office, 8), true);
            Check.due("the other of office " + office, net.rings(office, 9), false);
            Check.due("one is left in office " + office, net.idle(office, 5), 1);
        }
        net.tick(1);
        for (int office = 0; office < 3; office++) {
            Check.due("the other one, a tick later", net.rings(office, 9), true);
            Check.due("none is left", net.idle(office, 5), 0);
        }
        net.tick(1);
        Check.due("a tick without jobs", net.rings(0, 8), true);
    }

    private static void theOldestOneThatIsLeft() {
        CrossbarNet net = Scene.net();
        for (int line = 0; line < 3; line++) {
            Scene.call(net, 0, line, "21" + line);
        }
        net.hang(0, 0);
        Check.due("a job is gone", net.idle(0, 5), 2);
        net.tick(1);
        Check.due("that line does not ring", net.rings(0, 10), false);
        Check.due("the next one is done in its place", net.rings(0, 11), true);
        net.tick(1);
        Check.due("then the last one", net.rings(0, 12), true);
    }

    private static void aNumberThatCameInThisTickIsLeft() {
        for (int from = 0; from < 3; from++) {
            for (int to = 0; to < 3; to++) {
                if (from != to) {
                    CrossbarNet net = Scene.net();
                    Scene.call(net, from, 0, 2 + to + "05", 3);
                    Check.due("it is a job", net.idle(to, 5), 1);
                    Check.due("not done, from " + from + " to " + to, net.rings(to, 5), false);
                    net.tick(1);
                    Check.due("done, from " + from + " to " + to, net.rings(to, 5), true);
                }
            }
        }
    }

    private static void officesGoByTheirNumber() {
        for (int first = 0; first < 3; first++) {
            for (int later = first + 1; later < 3; later++) {
                CrossbarNet net = Scene.net();
                Scene.call(net, later, 0, 2 + first + "05");
                Scene.call(net, first, 0, 2 + later + "05");
                net.tick(1);
                Check.due("office " + first + " has the only trunk", net.seized(first, 0, 3), 1000 * later + 31);
                Check.due("office " + later + " has none", net.tone(later, 0), CrossbarNet.CONGESTION);
                Check.due("which is an overflow", net.overflow(later, first), 1);
            }
        }
    }

    private static void whatAnEarlierOfficeFreesIsIdle() {
        for (int busy = 0; busy < 2; busy++) {
            CrossbarNet net = Scene.net();
            int other = 1 - busy;
            for (int line = 0; line < 3; line++) {
                net.lift(busy, line);
            }
            Scene.digits(net, busy, 1, 2 + busy + "07");
            Scene.call(net, other, 0, 2 + busy + "08", 1);
            Check.due("the job of office " + busy, net.rings(busy, 7), true);
            if (busy == 0) {
                Check.due("its register serves office 1", net.seized(1, 0, 3), 31);
            } else {
                Check.due("it comes too late for office 0", net.tone(0, 0), CrossbarNet.CONGESTION);
            }
        }
    }

    private static void threeFourAndFiveDigits() {
        String[] prefixes = {"6", "76", "876"};
        int[] names = {16, 176, 1876};
        for (int i = 0; i < prefixes.length; i++) {
            CrossbarNet net = Scene.net();
            net.route(0, names[i], 1, 0, 0);
            net.route(1, names[i], 1, 0, 0);
            Scene.call(net, 0, 0, Scene.number(prefixes[i], 23), 1);
            for (int tick = 1; tick < i + 3; tick++) {
                Check.due("digits are left, tick " + tick, Scene.seizedBy(net, 0, 0), "30 0 5000 1030");
                Check.due("no job, tick " + tick, net.idle(1, 5), 0);
                net.tick(1);
            }
            Check.due("the last digit", Scene.seizedBy(net, 0, 0), "0 5000 1030");
            Check.due("the number is a job", net.idle(1, 5), 1);
            net.tick(1);
            Check.due("line 23", net.rings(1, 23), true);
        }
    }

    private static void noughtsAreSentToo() {
        int[] names = {10, 100, 1000};
        for (int i = 0; i < names.length; i++) {
            CrossbarNet net = new CrossbarNet();
            net.trunk(0, 1);
            net.route(0, names[i], 1, 0, 0);
            net.route(1, names[i], 1, 0, 0);
            Scene.call(net, 0, 5, "00000".substring(0, i + 3), i + 2);
            Check.due("one nought is left of " + (i + 3), net.idle(1, 5), 0);
            net.tick(1);
            Check.due("none is left of " + (i + 3), net.idle(1, 5), 1);
            net.tick(1);
            Check.due("line 00", net.rings(1, 0), true);
        }
    }

    private static void theLastDigitFreesTheRegister() {
        CrossbarNet net = Scene.net();
        for (int line = 0; line < 4; line++) {
            net.lift(0, line);
        }
        Scene.digits(net, 0, 1, "305");
        net.tick(2);
        Check.due("one digit is left", net.seized(0, 3, 0), CrossbarNet.NONE);
        net.tick(1);
        Check.due("its register for one that waits, in the same tick", net.seized(0, 3, 0), 31);
        Check.due("there the register stays", net.idle(1, 0), 2);
        net.tick(1);
        Check.due("until the job is done", net.idle(1, 0), 3);
    }

    private static void numbersComeByOffice() {
        for (int to = 0; to < 3; to++) {
            int first = to == 0 ? 1 : 0;
            int later = 3 - to - first;
            CrossbarNet net = Scene.net();
            Scene.call(net, later, 0, 2 + to + "06");
            Scene.call(net, first, 0, 2 + to + "05", 3);
            Check.due("both came to office " + to, net.idle(to, 5), 2);
            net.tick(1);
            Check.due("that of office " + first + " is older", net.rings(to, 5), true);
            Check.due("that of office " + later + " is left", net.rings(to, 6), false);
        }
    }

    private static void numbersComeByRegister() {
        CrossbarNet net = Scene.wideNet();
        net.route(0, 155, 1, 0, 0);
        net.route(1, 155, 1, 0, 0);
        net.lift(0, 9);
        net.lift(0, 8);
        Scene.digits(net, 0, 8, "5507");
        Scene.digits(net, 0, 9, "306");
        net.tick(4);
        Check.due("both came with the fourth tick", net.idle(1, 5), 2);
        net.tick(1);
        Check.due("that of register 0 is older", net.rings(1, 6), true);
        Check.due("that of register 1 is left", net.rings(1, 7), false);
    }

    private static void numbersComeBehindTheJobsThatAreThere() {
        CrossbarNet net = Scene.net();
        Scene.call(net, 0, 0, "305", 2);
        Scene.call(net, 1, 0, "308");
        Scene.call(net, 1, 1, "309");
        net.tick(1);
        Check.due("the first of the lines there", net.rings(1, 8), true);
        Check.due("two jobs are left", net.idle(1, 5), 2);
        net.tick(1);
        Check.due("the second of the lines there", net.rings(1, 9), true);
        Check.due("the one that came later is left", net.rings(1, 5), false);
        net.tick(1);
        Check.due("the one that came later", net.rings(1, 5), true);
    }

    private static void aCallThatEndsIsThereForTheJobs() {
        CrossbarNet net = Scene.talkWithin();
        net.hang(0, 5);
        net.tick(11);
        Scene.call(net, 0, 9, "205");
        Scene.call(net, 0, 10, "205");
        net.tick(1);
        Check.due("the twelfth tick", net.tone(0, 0), CrossbarNet.BUSY);
        Check.due("a job of that tick", net.tone(0, 9), CrossbarNet.BUSY);
        net.tick(1);
        Check.due("a job of the next tick", net.tone(0, 10), CrossbarNet.RINGBACK);
    }

    private static void aRegisterThatWaitedIsSeizedForTheJobs() {
        CrossbarNet net = Scene.wideNet();
        for (int line = 0; line < 3; line++) {
            net.lift(1, line);
        }
        net.tick(19);
        Scene.call(net, 0, 0, "305");
        Scene.call(net, 0, 1, "306");
        net.tick(1);
        Check.due("the twentieth tick", net.tone(1, 0), CrossbarNet.BUSY);
        Check.due("a job of that tick", net.tone(0, 0), CrossbarNet.CONGESTION);
        net.tick(1);
        Check.due("a job of the next tick", net.seized(0, 1, 3), 1030);
    }

    private static void aTrunkThatEndsIsSeizedForTheJobs() {
        CrossbarNet net = Scene.talkOverTrunk();
        net.hang(1, 5);
        net.tick(11);
        Scene.call(net, 0, 8, "306");
        Scene.call(net, 0, 9, "307");
        net.tick(1);
        Check.due("a job of the twelfth tick", net.tone(0, 8), CrossbarNet.CONGESTION);
        Check.due("an overflow", net.overflow(0, 1), 1);
        net.tick(1);
        Check.due("a job of the next tick", net.seized(0, 9, 2), 5000);
        Check.due("no overflow", net.overflow(0, 1), 1);
    }

    private static void eachTickCountsOnce() {
        CrossbarNet net = Scene.net();
        Scene.call(net, 0, 0, "305", 4);
        net.lift(1, 5);
        Scene.call(net, 0, 8, "206", 1);
        net.lift(0, 6);
        net.hang(0, 6);
        net.lift(0, 9);
        net.tick(3);
        Check.due("the fourth tick of a period of five", net.meter(0, 0), 3);
        net.tick(1);
        Check.due("the fifth tick", net.meter(0, 0), 6);
        net.tick(7);
        Check.due("the eleventh tick behind hanging up", net.tone(0, 8), CrossbarNet.SILENCE);
        net.tick(1);
        Check.due("the twelfth tick", net.tone(0, 8), CrossbarNet.BUSY);
        net.tick(7);
        Check.due("the nineteenth tick without a digit", net.tone(0, 9), CrossbarNet.DIAL);
        net.tick(1);
        Check.due("the twentieth tick", net.tone(0, 9), CrossbarNet.BUSY);
    }

    private static void theLongestWaitingLineIsTheFirst() {
        CrossbarNet net = new CrossbarNet();
        for (int line : new int[] {0, 1, 2, 9, 4, 7, 3}) {
            net.lift(0, line);
        }
        net.hang(0, 2);
        net.tick(1);
        Check.due("the longest waiting one", net.seized(0, 9, 0), 32);
        Check.due("three wait on", net.idle(0, 4), 3);
        net.hang(0, 9);
        net.hang(0, 0);
        net.tick(1);
        Check.due("the next one, the first register", net.seized(0, 4, 0), 30);
        Check.due("the one behind it", net.seized(0, 7, 0), 32);
        Check.due("the last one waits on", net.seized(0, 3, 0), CrossbarNet.NONE);
        net.tick(5);
        Check.due("as long as no register is idle", net.idle(0, 4), 1);
    }

    private static void moreRegistersThanLines() {
        CrossbarNet net = new CrossbarNet();
        for (int line = 0; line < 4; line++) {
            net.lift(2, line);
        }
        for (int line = 0; line < 3; line++) {
            net.hang(2, line);
        }
        net.tick(1);
        Check.due("the only one that waits", net.seized(2, 3, 0), 2030);
        Check.due("the other registers are idle", net.idle(2, 0), 2);
        net.lift(2, 0);
        Check.due("none waits any more", net.seized(2, 0, 0), 2031);
    }

    private static void whoHangsUpLosesItsPlace() {
        CrossbarNet net = new CrossbarNet();
        for (int line = 0; line < 6; line++) {
            net.lift(0, line);
        }
        net.hang(0, 3);
        net.lift(0, 3);
        net.hang(0, 0);
        net.hang(0, 1);
        net.tick(1);
        Check.due("the first one now", net.seized(0, 4, 0), 30);
        Check.due("the second one now", net.seized(0, 5, 0), 31);
        Check.due("the one that hung up is behind them", net.seized(0, 3, 0), CrossbarNet.NONE);
    }

    private static void registersOfThisTickAreGiven() {
        CrossbarNet net = Scene.net();
        net.lift(0, 0);
        net.tick(1);
        net.lift(0, 1);
        net.lift(0, 2);
        for (int line = 3; line < 6; line++) {
            net.lift(0, line);
        }
        Scene.digits(net, 0, 1, "208");
        net.tick(1);
        Check.due("that of a job that was done", net.seized(0, 3, 0), 31);
        Scene.digits(net, 0, 2, "224");
        net.tick(1);
        Check.due("that of a job that failed", net.seized(0, 4, 0), 32);
        net.tick(16);
        Check.due("none so far", net.seized(0, 5, 0), CrossbarNet.NONE);
        net.tick(1);
        Check.due("that of one that waited for a digit", net.seized(0, 5, 0), 30);
    }

    private static void eachOfficeGivesItsOwn() {
        CrossbarNet net = new CrossbarNet();
        for (int office = 0; office < 3; office++) {
            for (int line = 0; line < 4; line++) {
                net.lift(office, line);
            }
        }
        for (int office = 0; office < 3; office++) {
            net.hang(office, 2 - office);
        }
        net.tick(1);
        for (int office = 0; office < 3; office++) {
            Check.due("office " + office, net.seized(office, 3, 0), 1000 * office + 32 - office);
            Check.due("none waits in office " + office, net.idle(office, 4), 0);
        }
    }

    private static void aJobTakesARegisterBeforeThoseWhoWait() {
        CrossbarNet net = Scene.net();
        for (int line = 0; line < 4; line++) {
            net.lift(1, line);
        }
        net.hang(1, 1);
        Scene.call(net, 0, 0, "305", 1);
        Check.due("a job of another office goes first", net.seized(0, 0, 3), 1031);
        Check.due("the line waits on", net.seized(1, 3, 0), CrossbarNet.NONE);
        Check.due("it is still there", net.idle(1, 4), 1);
    }
}
