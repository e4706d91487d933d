/** What the terms and promises 6, 10, 13 and 14 say of talking, hanging up, being held, and of the end of a call. */
final class TalkBoundaries {
    private static final String TERMS = "Terms";
    private static final String HANG = "Promise 6: hang";
    private static final String HOLD = "Promise 10: hold";
    private static final String TALKS = "Promise 13: talks";
    private static final String METER = "Promise 14: meter";
    private static final String TALKING = "TALKING begins when the line that rings is lifted: the line that called is "
            + "charged the UNITS of the prefix that it dialled in its office, and again whenever as many ticks as its "
            + "PERIOD (0: no more) have gone by since, those not counted in which the called line has hung up.";
    private static final String CALLER = "HANGING UP. The line that calls: the call is OVER; if it is HELD, it stays, "
            + "and is OVER when it is HELD no longer, if that line has not lifted again before.";
    private static final String CALLED = "The line that is called, while talking: the call is OVER with the twelfth "
            + "tick, ticks in which it is HELD not counted; if it lifts before, it talks on (and the ticks are counted "
            + "anew the next time).";
    private static final String OTHER = "Any other line: its tone, or its waiting, is gone.";
    private static final String OVER = "OVER: all that the call has seized is idle, its JOB is gone; each of its lines "
            + "that is lifted has BUSY tone until it hangs up; the line called rings no more.";
    private static final String HELD = "The call of a line that is called, and talks or has hung up for now, is HELD, or "
            + "no longer: whether it is one.";
    private static final String WITH = "The line with which a line talks, 24 times its office plus its number; NONE if "
            + "it does not (also while the called one has hung up).";

    private TalkBoundaries() {
    }

    static void all() {
        Sentence.holds(TERMS, TALKING, TalkBoundaries::talkBeginsWithLifting);
        Sentence.holds(TERMS, TALKING, TalkBoundaries::unitsOfThePrefixDialledInItsOffice);
        Sentence.holds(TERMS, TALKING, TalkBoundaries::periodsOfOneAndOfAThousand);
        Sentence.holds(TERMS, TALKING, TalkBoundaries::aPeriodOfNought);
        Sentence.holds(TERMS, TALKING, TalkBoundaries::ticksHungUpAreNotCounted);
        Sentence.holds(TERMS, TALKING, TalkBoundaries::ticksWithoutTheLineThatCallsAreCounted);
        Sentence.holds(TERMS, CALLER, TalkBoundaries::theCallerEndsItAtEachStage);
        Sentence.holds(TERMS, CALLER, TalkBoundaries::aHeldCallStaysUntilItIsNotHeld);
        Sentence.holds(TERMS, CALLER, TalkBoundaries::aHeldCallWhoseCallerCameBack);
        Sentence.holds(TERMS, CALLER, TalkBoundaries::aHeldCallWhoseCallerCameAndWent);
        Sentence.holds(TERMS, CALLED, TalkBoundaries::theTwelfthTick);
        Sentence.holds(TERMS, CALLED, TalkBoundaries::heldTicksAreNotCounted);
        Sentence.holds(TERMS, CALLED, TalkBoundaries::countedAnewTheNextTime);
        Sentence.holds(TERMS, CALLED, TalkBoundaries::liftingBehindTheTwelfthTick);
        Sentence.holds(TERMS, OTHER, TalkBoundaries::tonesAreGone);
        Sentence.holds(TERMS, OTHER, TalkBoundaries::waitingIsGone);
        Sentence.holds(TERMS, OVER, TalkBoundaries::linesThatAreLiftedAreBusy);
        Sentence.holds(TERMS, OVER, TalkBoundaries::ringingAndJobsEnd);
        Sentence.holds(TERMS, OVER, TalkBoundaries::linesOfFormerCallsAreLeftAlone);
        Sentence.holds(HANG, "A line hangs up.", TalkBoundaries::aLineThatHungUpCanLiftAgain);
        Sentence.holds(HANG, "IllegalState: it is on the hook.", TalkBoundaries::linesOnTheHook);
        Sentence.holds(HOLD, HELD, TalkBoundaries::whoseCallCanBeHeld);
        Sentence.holds(HOLD, HELD, TalkBoundaries::heldBeforeAndWhileItHasHungUp);
        Sentence.holds(HOLD, HELD, TalkBoundaries::theNextCallIsNotHeld);
        Sentence.holds(TALKS, WITH, TalkBoundaries::namesFromNoughtToSeventyOne);
        Sentence.holds(TALKS, WITH, TalkBoundaries::noneWhileOneIsOnTheHook);
        Sentence.holds(METER, "What was charged to a line.", TalkBoundaries::metersAddUp);
    }

    /** Line 0 of office 0 talks with its line 8; a period's units are 1. */
    private static CrossbarNet talkWithPeriod(int period) {
        CrossbarNet net = new CrossbarNet();
        net.route(0, 12, 0, 1, period);
        Scene.call(net, 0, 0, "208", 1);
        net.lift(0, 8);
        return net;
    }

    private static void ticks(CrossbarNet net, int many) {
        for (int i = 0; i < many; i++) {
            net.tick(1);
        }
    }

    private static void talkBeginsWithLifting() {
        CrossbarNet net = Scene.net();
        Scene.call(net, 0, 0, "305", 100);
        Check.due("ringing is not charged", net.meter(0, 0), 0);
        Check.due("ringing is not talking", net.talks(0, 0), CrossbarNet.NONE);
        net.lift(1, 5);
        Check.due("charged at once", net.meter(0, 0), 3);
        Check.due("talking", net.talks(0, 0), 29);
        Check.due("the tone of the line that called", net.tone(0, 0), CrossbarNet.SILENCE);
        net.tick(4);
        Check.due("ticks count from lifting on", net.meter(0, 0), 3);
        net.tick(1);
        Check.due("the period's last tick", net.meter(0, 0), 6);
    }

    private static void unitsOfThePrefixDialledInItsOffice() {
        CrossbarNet net = Scene.net();
        net.out(2, true);
        Scene.call(net, 0, 0, "405", 7);
        net.lift(2, 5);
        Check.due("not those of the offices on its way", net.meter(0, 0), 5);
        net.tick(4);
        Check.due("nor their periods", net.meter(0, 0), 10);
        Scene.call(net, 2, 8, "409", 1);
        net.lift(2, 9);
        Check.due("those of another office's own prefix", net.meter(2, 8), 9);
        Check.due("the lines called are not charged", net.meter(2, 5) + net.meter(2, 9), 0);
        CrossbarNet free = new CrossbarNet();
        free.route(0, 12, 0, 0, 1);
        Scene.call(free, 0, 0, "201", 1);
        free.lift(0, 1);
        free.tick(100);
        Check.due("units of 0", free.meter(0, 0), 0);
    }

    private static void periodsOfOneAndOfAThousand() {
        CrossbarNet one = talkWithPeriod(1);
        for (int tick = 1; tick <= 5; tick++) {
            one.tick(1);
            Check.due("a period of 1, tick " + tick, one.meter(0, 0), 1 + tick);
        }
        CrossbarNet thousand = talkWithPeriod(1000);
        for (int round = 1; round <= 3; round++) {
            for (int i = 0; i < 9; i++) {
                thousand.tick(100);
            }
            thousand.tick(99);
            Check.due("a period of 1000, the last tick but one", thousand.meter(0, 0), round);
            thousand.tick(1);
            Check.due("a period of 1000, the last tick", thousand.meter(0, 0), round + 1);
        }
    }

    private static void aPeriodOfNought() {
        CrossbarNet net = talkWithPeriod(0);
        for (int i = 0; i < 12; i++) {
            net.tick(100);
            Check.due("no more", net.meter(0, 0), 1);
        }
        net.hang(0, 8);
        net.tick(5);
        net.lift(0, 8);
        net.tick(5);
        Check.due("talking on is not charged", net.meter(0, 0), 1);
    }

    private static void ticksHungUpAreNotCounted() {
        CrossbarNet net = talkWithPeriod(7);
        net.tick(6);
        net.hang(0, 8);
        net.tick(11);
        Check.due("while it has hung up", net.meter(0, 0), 1);
        net.lift(0, 8);
        Check.due("with lifting again", net.meter(0, 0), 1);
        net.tick(1);
        Check.due("the seventh tick that counts", net.meter(0, 0), 2);
        net.tick(6);
        net.hang(0, 8);
        net.lift(0, 8);
        Check.due("hung up between two ticks", net.meter(0, 0), 2);
        net.tick(1);
        Check.due("no tick was lost", net.meter(0, 0), 3);
        net.hang(0, 8);
        net.hold(0, 8, true);
        net.tick(100);
        Check.due("hung up and held", net.meter(0, 0), 3);
    }

    private static void ticksWithoutTheLineThatCallsAreCounted() {
        CrossbarNet net = talkWithPeriod(5);
        net.hold(0, 8, true);
        net.tick(4);
        net.hang(0, 0);
        net.tick(1);
        Check.due("the called line has not hung up", net.meter(0, 0), 2);
        net.tick(10);
        Check.due("ten ticks more", net.meter(0, 0), 4);
    }

    private static void theCallerEndsItAtEachStage() {
        String[] digits = {"", "3", "30", "305", "305", "305", "305", "305"};
        for (int stage = 0; stage < digits.length; stage++) {
            CrossbarNet net = Scene.net();
            String fresh = Scene.stateOf(net);
            Scene.call(net, 0, 0, digits[stage]);
            ticks(net, stage - 3);
            net.hang(0, 0);
            Check.due("all is as at first, stage " + stage, Scene.stateOf(net), fresh);
            net.tick(40);
            Check.due("and stays so, stage " + stage, Scene.stateOf(net), fresh);
        }
        CrossbarNet net = Scene.talkOverTrunk();
        net.hang(0, 0);
        Check.due("talking", net.tone(1, 5), CrossbarNet.BUSY);
        Check.due("nothing is seized", net.seized(0, 0, 0), CrossbarNet.NONE);
        CrossbarNet hungUp = Scene.talkOverTrunk();
        hungUp.hang(1, 5);
        hungUp.hang(0, 0);
        Check.due("the called line had hung up before", hungUp.idle(0, 3), 2);
        hungUp.lift(1, 5);
        Check.due("it has no call any more", hungUp.tone(1, 5), CrossbarNet.DIAL);
    }

    private static void aHeldCallStaysUntilItIsNotHeld() {
        CrossbarNet net = Scene.talkOverTrunk();
        net.hold(1, 5, true);
        net.hang(0, 0);
        for (int i = 0; i < 3; i++) {
            Check.due("it stays", Scene.seizedBy(net, 0, 0), "0 5000 1000");
            Check.due("the line called is silent", net.tone(1, 5), CrossbarNet.SILENCE);
            Check.due("the line that called is silent", net.tone(0, 0), CrossbarNet.SILENCE);
            net.tick(100);
        }
        Check.due("held still", net.hold(1, 5, true), true);
        Check.due("it stays on", Scene.seizedBy(net, 0, 0), "0 5000 1000");
        Check.due("held no longer", net.hold(1, 5, false), true);
        Check.due("it is over", net.seized(0, 0, 0), CrossbarNet.NONE);
        Check.due("the line called is busy", net.tone(1, 5), CrossbarNet.BUSY);
        Check.due("all is idle", net.idle(0, 1) + net.idle(1, 1) + net.idle(0, 3), 26);
        CrossbarNet both = Scene.talkOverTrunk();
        both.hold(1, 5, true);
        both.hang(1, 5);
        both.hang(0, 0);
        both.tick(100);
        Check.due("both have hung up", Scene.seizedBy(both, 0, 0), "0 5000 1000");
        both.hold(1, 5, false);
        Check.due("over at once, not with a tick", both.seized(0, 0, 0), CrossbarNet.NONE);
        Check.due("it was over then", both.hold(1, 5, false), false);
    }

    private static void aHeldCallWhoseCallerCameBack() {
        CrossbarNet net = Scene.talkOverTrunk();
        net.hold(1, 5, true);
        net.hang(0, 0);
        net.lift(0, 0);
        Check.due("it talks on", net.talks(0, 0), 29);
        Check.due("it is not charged anew", net.meter(0, 0), 3);
        Check.due("it has no register", net.idle(0, 0), 3);
        Check.due("its tone", net.tone(0, 0), CrossbarNet.SILENCE);
        net.hold(1, 5, false);
        Check.due("held no longer, it talks on", net.talks(0, 0), 29);
        net.hang(0, 0);
        Check.due("now it is over", net.tone(1, 5), CrossbarNet.BUSY);
    }

    private static void aHeldCallWhoseCallerCameAndWent() {
        CrossbarNet net = Scene.talkOverTrunk();
        net.hold(1, 5, true);
        net.hang(0, 0);
        net.lift(0, 0);
        net.hang(0, 0);
        Check.due("it stays a second time", Scene.seizedBy(net, 0, 0), "0 5000 1000");
        net.hold(1, 5, false);
        Check.due("over", net.tone(1, 5), CrossbarNet.BUSY);
    }

    private static void theTwelfthTick() {
        CrossbarNet net = Scene.talkOverTrunk();
        net.hang(1, 5);
        for (int tick = 1; tick <= 11; tick++) {
            net.tick(1);
            Check.due("it stays, tick " + tick, Scene.seizedBy(net, 0, 0), "0 5000 1000");
            Check.due("the line that calls is silent", net.tone(0, 0), CrossbarNet.SILENCE);
        }
        net.tick(1);
        Check.due("over", net.seized(0, 0, 0), CrossbarNet.NONE);
        Check.due("the line that calls", net.tone(0, 0), CrossbarNet.BUSY);
        Check.due("the line called", net.tone(1, 5), CrossbarNet.SILENCE);
        CrossbarNet many = Scene.talkOverTrunk();
        many.hang(1, 5);
        many.tick(100);
        Check.due("many ticks at once", many.tone(0, 0), CrossbarNet.BUSY);
    }

    private static void heldTicksAreNotCounted() {
        for (int before = 0; before <= 11; before++) {
            CrossbarNet net = Scene.talkWithin();
            net.hang(0, 5);
            ticks(net, before);
            net.hold(0, 5, true);
            net.tick(50);
            net.hold(0, 5, false);
            Check.due("held no longer", net.seized(0, 0, 0), 0);
            ticks(net, 11 - before);
            Check.due("eleven that count, before " + before, net.seized(0, 0, 0), 0);
            net.tick(1);
            Check.due("twelve that count, before " + before, net.seized(0, 0, 0), CrossbarNet.NONE);
        }
        CrossbarNet always = Scene.talkWithin();
        always.hold(0, 5, true);
        always.hang(0, 5);
        always.tick(100);
        always.lift(0, 5);
        Check.due("held all the time", always.talks(0, 0), 5);
    }

    private static void countedAnewTheNextTime() {
        CrossbarNet net = Scene.talkWithin();
        for (int round = 0; round < 3; round++) {
            net.hang(0, 5);
            net.tick(11);
            net.lift(0, 5);
            Check.due("it talks on", net.talks(0, 0), 5);
            Check.due("the other too", net.talks(0, 5), 0);
        }
        net.tick(100);
        Check.due("ticks of talk do not end it", net.talks(0, 0), 5);
        net.hang(0, 5);
        net.tick(11);
        Check.due("eleven", net.seized(0, 0, 0), 0);
        net.tick(1);
        Check.due("twelve", net.tone(0, 0), CrossbarNet.BUSY);
        net.hang(0, 0);
        Scene.call(net, 0, 0, "205", 1);
        net.lift(0, 5);
        net.hang(0, 5);
        net.tick(11);
        Check.due("the next call counts anew", net.seized(0, 0, 0) == CrossbarNet.NONE, false);
    }

    private static void liftingBehindTheTwelfthTick() {
        CrossbarNet net = Scene.talkWithin();
        net.hang(0, 5);
        net.tick(12);
        net.lift(0, 5);
        Check.due("a call of its own", net.tone(0, 5), CrossbarNet.DIAL);
        Check.due("no talk", net.talks(0, 5), CrossbarNet.NONE);
        Check.due("the other is busy still", net.tone(0, 0), CrossbarNet.BUSY);
    }

    private static void tonesAreGone() {
        CrossbarNet net = Scene.net();
        Scene.call(net, 0, 0, "9");
        net.lift(0, 1);
        Scene.call(net, 0, 2, "201", 1);
        net.out(0, true);
        Scene.call(net, 0, 3, "305", 1);
        int[] tones = {CrossbarNet.UNKNOWN, CrossbarNet.DIAL, CrossbarNet.BUSY, CrossbarNet.CONGESTION};
        for (int line = 0; line < tones.length; line++) {
            Check.due("tone of line " + line, net.tone(0, line), tones[line]);
            net.hang(0, line);
            Check.due("tone on the hook", net.tone(0, line), CrossbarNet.SILENCE);
        }
        CrossbarNet over = Scene.talkWithin();
        over.hang(0, 0);
        Check.due("a line that was called", over.tone(0, 5), CrossbarNet.BUSY);
        over.hang(0, 5);
        Check.due("and hangs up", over.tone(0, 5), CrossbarNet.SILENCE);
        over.lift(0, 5);
        Check.due("and lifts again", over.tone(0, 5), CrossbarNet.DIAL);
    }

    private static void waitingIsGone() {
        CrossbarNet net = Scene.net();
        for (int line = 0; line < 6; line++) {
            net.lift(0, line);
        }
        net.hang(0, 4);
        Check.due("two wait on", net.idle(0, 4), 2);
        for (int line = 0; line < 3; line++) {
            net.hang(0, line);
        }
        net.tick(1);
        Check.due("the first of them", net.seized(0, 3, 0), 30);
        Check.due("the second of them", net.seized(0, 5, 0), 31);
        Check.due("the one that hung up", net.seized(0, 4, 0), CrossbarNet.NONE);
        Scene.call(net, 0, 6, "204", 1);
        Check.due("it is free", net.rings(0, 4), true);
    }

    private static void linesThatAreLiftedAreBusy() {
        CrossbarNet net = Scene.talkOverTrunk();
        net.hang(0, 0);
        Check.due("the line called", net.tone(1, 5), CrossbarNet.BUSY);
        Check.due("the line that called", net.tone(0, 0), CrossbarNet.SILENCE);
        net.tick(100);
        Check.due("until it hangs up", net.tone(1, 5), CrossbarNet.BUSY);
        Check.due("it has no register", net.dial(1, 5, 2), false);
        Scene.call(net, 0, 0, "305", 4);
        Check.due("it is not free", net.tone(0, 0), CrossbarNet.BUSY);
        net.hang(1, 5);
        Check.due("on the hook", net.tone(1, 5), CrossbarNet.SILENCE);
        Check.due("all is idle here", Scene.idles(net, 0), "3 12 5 2 0 0");
        Check.due("all is idle there", Scene.idles(net, 1), "3 12 5 2 0 0");
    }

    private static void ringingAndJobsEnd() {
        CrossbarNet net = Scene.net();
        Scene.call(net, 0, 0, "205", 1);
        Check.due("it rings", net.rings(0, 5), true);
        net.hang(0, 0);
        Check.due("it rings no more", net.rings(0, 5), false);
        Check.due("links and junctors", net.idle(0, 1) + net.idle(0, 2), 17);
        Scene.call(net, 0, 0, "305", 3);
        Check.due("a job there", net.idle(1, 5), 1);
        net.hang(0, 0);
        Check.due("it is gone", net.idle(1, 5), 0);
        net.tick(1);
        Check.due("no line rings", net.rings(1, 5), false);
        Scene.call(net, 0, 0, "205");
        net.hang(0, 0);
        Check.due("a job here is gone", net.idle(0, 5), 0);
    }

    private static void linesOfFormerCallsAreLeftAlone() {
        CrossbarNet net = Scene.talkWithin();
        net.hang(0, 0);
        net.hang(0, 5);
        Scene.call(net, 0, 9, "205", 1);
        net.lift(0, 5);
        Scene.call(net, 0, 0, "9");
        net.hang(0, 0);
        Check.due("a call that fails has but its own lines", net.talks(0, 5), 9);
        net.lift(0, 0);
        net.hang(0, 0);
        Check.due("so has one that is over", net.talks(0, 5), 9);
        Check.due("no tone comes to others", net.tone(0, 5), CrossbarNet.SILENCE);
    }

    private static void aLineThatHungUpCanLiftAgain() {
        for (int office = 0; office < 3; office++) {
            for (int line : new int[] {0, 23}) {
                CrossbarNet net = new CrossbarNet();
                for (int round = 0; round < 3; round++) {
                    net.lift(office, line);
                    net.hang(office, line);
                }
                Check.due("all is idle", Scene.idles(net, office), "3 12 5 0 0 0");
                net.lift(office, line);
                Check.due("it has a register", net.seized(office, line, 0), 1000 * office + 30);
            }
        }
    }

    private static void linesOnTheHook() {
        CrossbarNet net = Scene.net();
        Check.badState("at first", net, () -> net.hang(0, 0));
        Scene.call(net, 0, 0, "305", 4);
        Check.badState("while it rings", net, () -> net.hang(1, 5));
        net.lift(1, 5);
        net.hang(1, 5);
        Check.badState("while it has hung up for now", net, () -> net.hang(1, 5));
        net.hold(1, 5, true);
        net.hang(0, 0);
        Check.badState("the line that called, of a held call", net, () -> net.hang(0, 0));
        net.hold(1, 5, false);
        Check.badState("when all is over", net, () -> net.hang(0, 0));
    }

    private static void whoseCallCanBeHeld() {
        for (boolean is : new boolean[] {true, false}) {
            CrossbarNet net = Scene.net();
            Check.due("on the hook", net.hold(1, 5, is), false);
            Scene.call(net, 0, 0, "305");
            for (int tick = 0; tick <= 4; tick++) {
                Check.due("the line that calls, tick " + tick, net.hold(0, 0, is), false);
                Check.due("the line called before it talks, tick " + tick, net.hold(1, 5, is), false);
                net.tick(1);
            }
            net.lift(1, 5);
            Check.due("the line that calls and talks", net.hold(0, 0, is), false);
            Check.due("another line", net.hold(1, 6, is), false);
            Check.due("the line called", net.hold(1, 5, is), true);
            net.hang(1, 5);
            Check.due("it has hung up for now", net.hold(1, 5, is), true);
            net.hold(1, 5, false);
            net.tick(12);
            Check.due("it is over", net.hold(1, 5, is), false);
            net.lift(1, 5);
            Check.due("a call of its own", net.hold(1, 5, is), false);
        }
        CrossbarNet ringing = Scene.net();
        Scene.call(ringing, 0, 0, "305", 4);
        ringing.hold(1, 5, true);
        ringing.lift(1, 5);
        ringing.hang(0, 0);
        Check.due("what rang was not held", ringing.tone(1, 5), CrossbarNet.BUSY);
    }

    private static void heldBeforeAndWhileItHasHungUp() {
        CrossbarNet net = Scene.talkWithin();
        net.hang(0, 5);
        net.tick(11);
        Check.due("before the twelfth tick", net.hold(0, 5, true), true);
        net.hang(0, 0);
        Check.due("it stays", net.idle(0, 1), 10);
        Check.due("it is held still", net.hold(0, 5, true), true);
        net.lift(0, 5);
        Check.due("the line called is back", net.tone(0, 5), CrossbarNet.SILENCE);
        net.lift(0, 0);
        Check.due("both are back", net.talks(0, 0), 5);
        net.hang(0, 0);
        Check.due("it is held still, behind lifting", net.idle(0, 1), 10);
    }

    private static void theNextCallIsNotHeld() {
        CrossbarNet net = Scene.talkWithin();
        net.hold(0, 5, true);
        net.hang(0, 0);
        net.hold(0, 5, false);
        net.hang(0, 5);
        Scene.call(net, 0, 0, "205", 1);
        net.lift(0, 5);
        net.hang(0, 0);
        Check.due("over", net.tone(0, 5), CrossbarNet.BUSY);
        CrossbarNet out = Scene.talkOverTrunk();
        out.hold(1, 5, true);
        out.out(0, true);
        out.out(0, false);
        out.hang(0, 0);
        out.hang(1, 5);
        Scene.call(out, 0, 0, "305", 4);
        out.lift(1, 5);
        out.hang(1, 5);
        out.tick(12);
        Check.due("ticks are counted", out.tone(0, 0), CrossbarNet.BUSY);
    }

    private static void namesFromNoughtToSeventyOne() {
        for (int from = 0; from < 3; from++) {
            for (int to = 0; to < 3; to++) {
                for (int line : new int[] {0, 23}) {
                    CrossbarNet net = Scene.net();
                    Scene.call(net, from, 23 - line, Scene.number("" + (2 + to), line), from == to ? 1 : 4);
                    net.lift(to, line);
                    Check.due("the line that calls", net.talks(from, 23 - line), 24 * to + line);
                    Check.due("the line called", net.talks(to, line), 24 * from + 23 - line);
                }
            }
        }
    }

    private static void noneWhileOneIsOnTheHook() {
        CrossbarNet net = Scene.net();
        Scene.call(net, 0, 0, "205", 1);
        bothTalk("ringing", net, CrossbarNet.NONE, CrossbarNet.NONE);
        net.lift(0, 5);
        bothTalk("talking", net, 5, 0);
        net.hang(0, 5);
        bothTalk("the called one has hung up", net, CrossbarNet.NONE, CrossbarNet.NONE);
        net.lift(0, 5);
        bothTalk("it is back", net, 5, 0);
        net.hold(0, 5, true);
        bothTalk("held", net, 5, 0);
        net.hang(0, 0);
        bothTalk("held, the one that calls has hung up", net, CrossbarNet.NONE, CrossbarNet.NONE);
        net.lift(0, 0);
        bothTalk("that one is back", net, 5, 0);
        net.hold(0, 5, false);
        net.hang(0, 0);
        bothTalk("over", net, CrossbarNet.NONE, CrossbarNet.NONE);
    }

    private static void bothTalk(String when, CrossbarNet net, int caller, int called) {
        Check.due(when + ": the line that calls", net.talks(0, 0), caller);
        Check.due(when + ": the line called", net.talks(0, 5), called);
    }

    private static void metersAddUp() {
        CrossbarNet net = Scene.net();
        int due = 0;
        for (String number : new String[] {"205", "305", "405"}) {
            int there = number.charAt(0) - '2';
            Scene.call(net, 0, 0, number, there == 0 ? 1 : 4);
            net.lift(there, 5);
            due += new int[] {1, 3, 5}[there];
            Check.due("with " + number, net.meter(0, 0), due);
            net.hang(0, 0);
            net.hang(there, 5);
        }
        net.tick(100);
        Check.due("nothing behind the end", net.meter(0, 0), 9);
        Scene.call(net, 0, 5, "200", 1);
        net.lift(0, 0);
        Check.due("each line has its own", net.meter(0, 5) + " " + net.meter(0, 0), "1 9");
        Check.due("all others have none", net.meter(1, 5) + net.meter(2, 5) + net.meter(0, 23), 0);
    }
}
