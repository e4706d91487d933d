/** What the terms and promises 5 and 7 say of lines that are lifted and dial: waiting, digits, failing. */
final class DialBoundaries {
    private static final String TERMS = "Terms";
    private static final String LIFT = "Promise 5: lift";
    private static final String DIAL = "Promise 7: dial";
    private static final String AT_FIRST = "A LINE is on the hook at first. Its TONE is SILENCE, but as said here.";
    private static final String LIFTED = "LIFTED while no call has it: if a register of its office is idle, and no line "
            + "waits for one, it seizes the first one; else it waits.";
    private static final String TONE = "With a register it has DIAL tone, until the first digit.";
    private static final String PREFIX = "DIALLING: the register has digits. When they can't become a prefix any more, "
            + "the call FAILS with UNKNOWN.";
    private static final String JOB = "When there are two behind a prefix, the call is a JOB for the marker, behind "
            + "those that it has.";
    private static final String TWENTY = "A register that waited 20 ticks for a digit since it was seized, or since the "
            + "last one: the call FAILS with BUSY.";
    private static final String FAILS = "FAILS: all that the call has seized is idle, its JOB is gone, and the line that "
            + "called has that tone until it hangs up.";
    private static final String TAKES = "A digit is dialled: whether a register takes it (one that waits for digits of "
            + "this line).";

    private DialBoundaries() {
    }

    static void all() {
        Sentence.holds(TERMS, AT_FIRST, DialBoundaries::eachLineIsOnTheHookAndSilent);
        Sentence.holds(LIFT, "A line is lifted.", DialBoundaries::eachLineCanBeLifted);
        Sentence.holds(LIFT, "IllegalState: it is.", DialBoundaries::whatIsLiftedCannotBeLifted);
        Sentence.holds(TERMS, LIFTED, DialBoundaries::theFourthLineWaits);
        Sentence.holds(TERMS, LIFTED, DialBoundaries::allOtherLinesWait);
        Sentence.holds(TERMS, LIFTED, DialBoundaries::whoComesLaterWaitsToo);
        Sentence.holds(TERMS, LIFTED, DialBoundaries::linesOfOtherOfficesDoNotMatter);
        Sentence.holds(TERMS, LIFTED, DialBoundaries::aLineThatACallHasNeedsNoRegister);
        Sentence.holds(TERMS, TONE, DialBoundaries::dialToneEndsWithTheFirstDigit);
        Sentence.holds(TERMS, PREFIX, DialBoundaries::failsWithTheFirstWrongDigit);
        Sentence.holds(TERMS, PREFIX, DialBoundaries::failsWithoutAnyPrefix);
        Sentence.holds(TERMS, JOB, DialBoundaries::theSecondDigitMakesAJob);
        Sentence.holds(TERMS, JOB, DialBoundaries::jobsAreOneBehindTheOther);
        Sentence.holds(TERMS, TWENTY, DialBoundaries::twentyTicksSinceItWasSeized);
        Sentence.holds(TERMS, TWENTY, DialBoundaries::twentyTicksSinceTheLastDigit);
        Sentence.holds(TERMS, TWENTY, DialBoundaries::twentyTicksBehindWaiting);
        Sentence.holds(TERMS, TWENTY, DialBoundaries::aJobDoesNotWaitForADigit);
        Sentence.holds(TERMS, TWENTY, DialBoundaries::waitingForARegisterIsNotWaitingForADigit);
        Sentence.holds(TERMS, FAILS, DialBoundaries::aRegisterIsIdleAgain);
        Sentence.holds(TERMS, FAILS, DialBoundaries::allIsIdleAgainFarAway);
        Sentence.holds(TERMS, FAILS, DialBoundaries::theToneStaysUntilItHangsUp);
        Sentence.holds(DIAL, TAKES, DialBoundaries::aRegisterTakesEachDigit);
        Sentence.holds(DIAL, TAKES, DialBoundaries::noRegisterTakesIt);
        Sentence.holds(DIAL, "IllegalArgument.", DialBoundaries::digitsEndAtNine);
        Sentence.holds(DIAL, "IllegalState: the line is on the hook.", DialBoundaries::onTheHook);
    }

    private static void eachLineIsOnTheHookAndSilent() {
        CrossbarNet net = new CrossbarNet();
        for (int office = 0; office < 3; office++) {
            for (int line = 0; line < 24; line++) {
                int o = office;
                int n = line;
                Check.due("tone", net.tone(o, n), CrossbarNet.SILENCE);
                Check.badState("hang", net, () -> net.hang(o, n));
                Check.badState("dial", net, () -> net.dial(o, n, 0));
            }
        }
    }

    private static void eachLineCanBeLifted() {
        CrossbarNet net = new CrossbarNet();
        for (int office = 0; office < 3; office++) {
            for (int line = 0; line < 24; line++) {
                net.lift(office, line);
                Check.due("it has a register", net.seized(office, line, 0), 1000 * office + 30);
                net.hang(office, line);
                Check.due("it is on the hook again", net.idle(office, 0), 3);
            }
        }
    }

    private static void whatIsLiftedCannotBeLifted() {
        CrossbarNet net = Scene.net();
        net.lift(0, 0);
        Check.badState("with dial tone", net, () -> net.lift(0, 0));
        Scene.digits(net, 0, 0, "2");
        Check.badState("dialling", net, () -> net.lift(0, 0));
        Scene.digits(net, 0, 0, "05");
        Check.badState("a job", net, () -> net.lift(0, 0));
        net.tick(1);
        Check.badState("with ringback tone", net, () -> net.lift(0, 0));
        net.lift(0, 5);
        Check.badState("talking, calls", net, () -> net.lift(0, 0));
        Check.badState("talking, called", net, () -> net.lift(0, 5));
        net.hang(0, 0);
        Check.badState("with busy tone", net, () -> net.lift(0, 5));
        for (int line = 10; line < 14; line++) {
            net.lift(0, line);
        }
        Check.badState("waiting", net, () -> net.lift(0, 13));
        Check.due("it waits once", net.idle(0, 4), 1);
        net.hang(0, 13);
        Check.due("it waits no more", net.idle(0, 4), 0);
    }

    private static void theFourthLineWaits() {
        CrossbarNet net = new CrossbarNet();
        for (int line = 0; line < 3; line++) {
            net.lift(1, line);
            Check.due("a register for line " + line, net.seized(1, line, 0), 1030 + line);
            Check.due("none waits", net.idle(1, 4), 0);
        }
        net.lift(1, 3);
        Check.due("none for the fourth", net.seized(1, 3, 0), CrossbarNet.NONE);
        Check.due("it waits", net.idle(1, 4), 1);
    }

    private static void allOtherLinesWait() {
        CrossbarNet net = new CrossbarNet();
        for (int line = 23; line >= 0; line--) {
            net.lift(0, line);
        }
        Check.due("all but three", net.idle(0, 4), 21);
        for (int round = 0; round < 7; round++) {
            for (int i = 0; i < 3; i++) {
                net.hang(0, 23 - 3 * round - i);
            }
            net.tick(1);
            Check.due("three less", net.idle(0, 4), 18 - 3 * round);
            for (int i = 0; i < 3; i++) {
                Check.due("in the order of waiting", net.seized(0, 20 - 3 * round - i, 0), 30 + i);
            }
        }
    }

    private static void whoComesLaterWaitsToo() {
        CrossbarNet net = new CrossbarNet();
        for (int line = 0; line < 4; line++) {
            net.lift(0, line);
        }
        net.hang(0, 0);
        net.hang(0, 1);
        net.lift(0, 4);
        Check.due("registers are idle, but a line waits", net.seized(0, 4, 0), CrossbarNet.NONE);
        Check.due("two wait", net.idle(0, 4), 2);
        net.hang(0, 3);
        net.hang(0, 4);
        net.lift(0, 5);
        Check.due("none waits any more", net.seized(0, 5, 0), 30);
    }

    private static void linesOfOtherOfficesDoNotMatter() {
        CrossbarNet net = new CrossbarNet();
        for (int line = 0; line < 5; line++) {
            net.lift(0, line);
            net.lift(2, line);
        }
        net.lift(1, 0);
        Check.due("a register of its own office", net.seized(1, 0, 0), 1030);
        Check.due("none waits there", net.idle(1, 4), 0);
        net.tick(1);
        Check.due("those of office 0 wait on", net.idle(0, 4), 2);
        Check.due("those of office 2 wait on", net.idle(2, 4), 2);
    }

    private static void aLineThatACallHasNeedsNoRegister() {
        CrossbarNet net = Scene.net();
        Scene.call(net, 0, 0, "305", 4);
        for (int line = 10; line < 14; line++) {
            net.lift(0, line);
            net.lift(1, line);
        }
        net.lift(1, 5);
        Check.due("one that rang", net.talks(1, 5), 0);
        net.hang(1, 5);
        net.lift(1, 5);
        Check.due("one that had hung up for now", net.talks(1, 5), 0);
        net.hold(1, 5, true);
        net.hang(0, 0);
        net.lift(0, 0);
        Check.due("one that called, of a held call", net.talks(0, 0), 29);
        Check.due("none of these waits here", net.idle(0, 4), 1);
        Check.due("none of these waits there", net.idle(1, 4), 1);
    }

    private static void dialToneEndsWithTheFirstDigit() {
        CrossbarNet net = Scene.net();
        for (int line = 0; line < 4; line++) {
            net.lift(0, line);
        }
        Check.due("with a register", net.tone(0, 0), CrossbarNet.DIAL);
        Check.due("without one", net.tone(0, 3), CrossbarNet.SILENCE);
        net.tick(19);
        Check.due("as long as no digit comes", net.tone(0, 0), CrossbarNet.DIAL);
        Scene.digits(net, 0, 0, "2");
        Check.due("with the first digit", net.tone(0, 0), CrossbarNet.SILENCE);
        Scene.digits(net, 0, 0, "0");
        Check.due("with the second digit", net.tone(0, 0), CrossbarNet.SILENCE);
        net.hang(0, 1);
        Check.due("a register is idle, no tick yet", net.tone(0, 3), CrossbarNet.SILENCE);
        net.tick(1);
        Check.due("one that has waited", net.tone(0, 3), CrossbarNet.DIAL);
        net.hang(0, 3);
        Check.due("on the hook", net.tone(0, 3), CrossbarNet.SILENCE);
    }

    private static void failsWithTheFirstWrongDigit() {
        String[] wrong = {"9", "29", "239", "00", "010"};
        for (String digits : wrong) {
            CrossbarNet net = new CrossbarNet();
            net.route(0, 1234, 0, 0, 0);
            net.route(0, 1011, 0, 0, 0);
            net.route(1, 19, 1, 0, 0);
            Scene.call(net, 0, 0, digits.substring(0, digits.length() - 1));
            Check.due("they can become a prefix, " + digits, net.seized(0, 0, 0), 30);
            Scene.digits(net, 0, 0, digits.substring(digits.length() - 1));
            Check.due("they can't any more, " + digits, net.tone(0, 0), CrossbarNet.UNKNOWN);
            Check.due("nothing is seized, " + digits, net.seized(0, 0, 0), CrossbarNet.NONE);
            Check.due("no digit is taken, " + digits, net.dial(0, 0, 2), false);
        }
        CrossbarNet net = new CrossbarNet();
        net.route(0, 1234, 0, 0, 0);
        Scene.call(net, 0, 0, "23499", 1);
        Check.due("digits behind a prefix are not looked at before the job", net.tone(0, 0), CrossbarNet.UNKNOWN);
    }

    private static void failsWithoutAnyPrefix() {
        for (int digit = 0; digit <= 9; digit++) {
            CrossbarNet net = new CrossbarNet();
            net.lift(2, 0);
            Check.due("without a digit there is dial tone", net.tone(2, 0), CrossbarNet.DIAL);
            Check.due("the digit is taken", net.dial(2, 0, digit), true);
            Check.due("digit " + digit, net.tone(2, 0), CrossbarNet.UNKNOWN);
        }
    }

    private static void theSecondDigitMakesAJob() {
        int[] prefixes = {12, 120, 1200};
        for (int i = 0; i < prefixes.length; i++) {
            CrossbarNet net = new CrossbarNet();
            net.route(0, prefixes[i], 0, 0, 0);
            net.lift(0, 3);
            for (char digit : "20000".substring(0, i + 3).toCharArray()) {
                Check.due("no job before the last digit", net.idle(0, 5), 0);
                net.dial(0, 3, digit - '0');
            }
            Check.due("a job", net.idle(0, 5), 1);
            Check.due("its register is still seized", net.seized(0, 3, 0), 30);
            Check.due("its tone", net.tone(0, 3), CrossbarNet.SILENCE);
            Check.due("no other office has it", net.idle(1, 5) + net.idle(2, 5), 0);
        }
    }

    private static void jobsAreOneBehindTheOther() {
        CrossbarNet net = Scene.net();
        for (int line = 0; line < 3; line++) {
            Scene.call(net, 0, line, "21");
        }
        for (int line : new int[] {1, 2, 0}) {
            net.dial(0, line, line);
        }
        Check.due("a job for each register", net.idle(0, 5), 3);
        for (int line : new int[] {1, 2, 0}) {
            Check.due("not yet", net.rings(0, 10 + line), false);
            net.tick(1);
            Check.due("the next one", net.rings(0, 10 + line), true);
        }
    }

    private static void twentyTicksSinceItWasSeized() {
        CrossbarNet net = Scene.net();
        net.lift(0, 0);
        net.tick(19);
        Check.due("nineteen", net.tone(0, 0), CrossbarNet.DIAL);
        Check.due("its register, nineteen", net.seized(0, 0, 0), 30);
        net.tick(1);
        Check.due("twenty", net.tone(0, 0), CrossbarNet.BUSY);
        Check.due("its register, twenty", net.seized(0, 0, 0), CrossbarNet.NONE);
        net.lift(0, 1);
        net.tick(100);
        Check.due("many at once", net.tone(0, 1), CrossbarNet.BUSY);
        net.lift(0, 2);
        net.tick(15);
        net.hang(0, 2);
        net.lift(0, 2);
        net.tick(19);
        Check.due("seized a second time, nineteen", net.tone(0, 2), CrossbarNet.DIAL);
        net.tick(1);
        Check.due("seized a second time, twenty", net.tone(0, 2), CrossbarNet.BUSY);
    }

    private static void twentyTicksSinceTheLastDigit() {
        CrossbarNet net = new CrossbarNet();
        net.route(0, 1234, 0, 0, 0);
        net.lift(0, 0);
        for (int digit : new int[] {2, 3, 4, 0}) {
            net.tick(19);
            Check.due("a digit behind nineteen ticks", net.dial(0, 0, digit), true);
        }
        net.tick(19);
        Check.due("nineteen", net.seized(0, 0, 0), 30);
        net.tick(1);
        Check.due("twenty", net.tone(0, 0), CrossbarNet.BUSY);
        Check.due("a digit comes too late", net.dial(0, 0, 5), false);
    }

    private static void twentyTicksBehindWaiting() {
        CrossbarNet net = Scene.net();
        for (int line = 0; line < 4; line++) {
            net.lift(0, line);
        }
        net.tick(20);
        Check.due("the others have busy tone", net.tone(0, 0), CrossbarNet.BUSY);
        Check.due("one has their register", net.tone(0, 3), CrossbarNet.DIAL);
        net.tick(19);
        Check.due("nineteen", net.tone(0, 3), CrossbarNet.DIAL);
        net.tick(1);
        Check.due("twenty", net.tone(0, 3), CrossbarNet.BUSY);
    }

    private static void aJobDoesNotWaitForADigit() {
        CrossbarNet net = Scene.net();
        for (int line = 0; line < 3; line++) {
            Scene.call(net, 0, line, "20");
        }
        net.tick(19);
        for (int line = 0; line < 3; line++) {
            net.dial(0, line, 7 + line);
        }
        net.tick(3);
        for (int line = 0; line < 3; line++) {
            Check.due("a job of the third tick too", net.tone(0, line), CrossbarNet.RINGBACK);
        }
        net.hang(0, 0);
        Scene.call(net, 0, 0, "30");
        net.tick(19);
        Scene.digits(net, 0, 0, "5");
        net.tick(4);
        Check.due("neither does one that sends", net.tone(0, 0), CrossbarNet.RINGBACK);
        net.tick(100);
        Check.due("nor one that rings", net.tone(0, 0), CrossbarNet.RINGBACK);
        net.lift(1, 5);
        net.tick(100);
        Check.due("nor one that talks", net.talks(0, 0), 29);
    }

    private static void waitingForARegisterIsNotWaitingForADigit() {
        CrossbarNet net = Scene.net();
        net.lift(0, 0);
        net.lift(0, 1);
        net.lift(0, 2);
        net.lift(0, 3);
        net.tick(15);
        for (int line = 0; line < 3; line++) {
            Scene.digits(net, 0, line, "2");
        }
        net.tick(15);
        Check.due("it waits on, without a tone", net.tone(0, 3), CrossbarNet.SILENCE);
        Check.due("it is still there", net.idle(0, 4), 1);
    }

    private static void aRegisterIsIdleAgain() {
        CrossbarNet net = Scene.net();
        Scene.call(net, 0, 0, "9");
        Check.due("with a digit: at once", net.idle(0, 0), 3);
        net.lift(0, 1);
        Check.due("for another line", net.seized(0, 1, 0), 30);
        Scene.digits(net, 0, 1, "224");
        Check.due("a job", net.idle(0, 5), 1);
        net.tick(1);
        Check.due("it fails", net.tone(0, 1), CrossbarNet.UNKNOWN);
        Check.due("its register", net.idle(0, 0), 3);
        Check.due("its job", net.idle(0, 5), 0);
    }

    private static void allIsIdleAgainFarAway() {
        CrossbarNet net = Scene.net();
        net.out(2, true);
        String fresh = Scene.idles(net, 0) + "," + Scene.idles(net, 1) + "," + Scene.idles(net, 2);
        Scene.call(net, 0, 0, "424", 6);
        Check.due("a job in the third office", net.idle(2, 5), 1);
        Check.due("what it has", Scene.seizedBy(net, 0, 0), "0 5000 5001 2030");
        net.tick(1);
        Check.due("line 24", net.tone(0, 0), CrossbarNet.UNKNOWN);
        Check.due("all is idle", Scene.idles(net, 0) + "," + Scene.idles(net, 1) + "," + Scene.idles(net, 2), fresh);
        Check.due("it has nothing", net.seized(0, 0, 0), CrossbarNet.NONE);
    }

    private static void theToneStaysUntilItHangsUp() {
        String[] numbers = {"9", "224", "201", "304", ""};
        int[] tones = {CrossbarNet.UNKNOWN, CrossbarNet.UNKNOWN, CrossbarNet.BUSY, CrossbarNet.CONGESTION,
            CrossbarNet.BUSY};
        for (int i = 0; i < numbers.length; i++) {
            CrossbarNet net = Scene.net();
            net.lift(0, 1);
            net.out(0, true);
            Scene.call(net, 0, 0, numbers[i], 20);
            for (int round = 0; round < 3; round++) {
                Check.due("tone behind " + numbers[i], net.tone(0, 0), tones[i]);
                Check.due("a digit", net.dial(0, 0, 2), false);
                net.tick(100);
            }
            Scene.call(net, 0, 2, "200", 1);
            Check.due("it is not free", net.tone(0, 2), CrossbarNet.BUSY);
            net.hang(0, 0);
            Check.due("on the hook", net.tone(0, 0), CrossbarNet.SILENCE);
            net.lift(0, 0);
            Check.due("the next time", net.tone(0, 0), CrossbarNet.DIAL);
        }
    }

    private static void aRegisterTakesEachDigit() {
        CrossbarNet net = new CrossbarNet();
        for (int digit = 0; digit <= 9; digit++) {
            net.route(0, 10 + digit, 0, 0, 0);
        }
        for (int digit = 0; digit <= 9; digit++) {
            net.lift(0, digit);
            Check.due("digit " + digit, net.dial(0, digit, digit), true);
            Check.due("the first digit of a line", net.dial(0, digit, 1), true);
            Check.due("the last digit", net.dial(0, digit, digit), true);
            Check.due("one more", net.dial(0, digit, digit), false);
            net.tick(1);
            Check.due("line " + (10 + digit), net.rings(0, 10 + digit), true);
            net.hang(0, digit);
        }
        net.lift(1, 0);
        Check.due("one by which the call fails is taken", net.dial(1, 0, 5), true);
    }

    private static void noRegisterTakesIt() {
        CrossbarNet net = Scene.net();
        for (int line = 0; line < 4; line++) {
            net.lift(0, line);
        }
        Check.due("while it waits", net.dial(0, 3, 2), false);
        net.hang(0, 1);
        Check.due("while a register is idle, before the tick", net.dial(0, 3, 2), false);
        net.tick(1);
        Check.due("what was not taken is not kept", net.tone(0, 3), CrossbarNet.DIAL);
        Scene.digits(net, 0, 3, "305");
        Check.due("while it is a job", net.dial(0, 3, 1), false);
        for (int tick = 1; tick <= 4; tick++) {
            net.tick(1);
            Check.due("while digits are sent and behind it", net.dial(0, 3, 1), false);
        }
        net.lift(1, 5);
        Check.due("while it talks", net.dial(0, 3, 1), false);
        Check.due("while it is called and talks", net.dial(1, 5, 1), false);
        net.hang(1, 5);
        Check.due("while the called line has hung up", net.dial(0, 3, 1), false);
        net.tick(12);
        Check.due("with busy tone", net.dial(0, 3, 1), false);
    }

    private static void digitsEndAtNine() {
        CrossbarNet net = Scene.net();
        net.lift(0, 0);
        for (int digit : new int[] {Integer.MIN_VALUE, -1, 10, Integer.MAX_VALUE}) {
            Check.badArgument("digit " + digit, net, () -> net.dial(0, 0, digit));
            Check.badArgument("digit " + digit + " on the hook", net, () -> net.dial(0, 1, digit));
        }
        Check.badPlaces("dial", net, (office, line) -> net.dial(office, line, 2));
        Scene.digits(net, 0, 0, "205");
        net.tick(1);
        Check.due("none of these was a digit", net.rings(0, 5), true);
    }

    private static void onTheHook() {
        CrossbarNet net = Scene.net();
        Check.badState("at first", net, () -> net.dial(0, 0, 2));
        Scene.call(net, 0, 0, "205", 1);
        Check.badState("while it rings", net, () -> net.dial(0, 5, 2));
        net.lift(0, 5);
        net.hang(0, 5);
        Check.badState("while it has hung up for now", net, () -> net.dial(0, 5, 2));
        net.hang(0, 0);
        Check.badState("hung up", net, () -> net.dial(0, 0, 2));
    }
}
