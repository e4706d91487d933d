/** Networks and doings that several tests begin with. */
final class Scene {
    static final int OFFICES = 3;
    static final int LINES = 24;

    private Scene() {
    }

    /**
     * Trunk 0 lies between offices 0 and 1, trunk 1 between 1 and 2, trunk 2 between 0 and 2. Lines of office 0 are
     * behind the prefix 2, those of office 1 behind 3, those of office 2 behind 4; 0 reaches 2 directly or over 1.
     */
    static CrossbarNet net() {
        CrossbarNet net = new CrossbarNet();
        net.trunk(0, 1);
        net.trunk(1, 2);
        net.trunk(0, 2);
        addRoutes(net);
        return net;
    }

    /** Has all 16 trunks: 0 to 7 between offices 0 and 1, 8 to 11 between 0 and 2, 12 to 15 between 1 and 2. */
    static CrossbarNet wideNet() {
        CrossbarNet net = new CrossbarNet();
        for (int i = 0; i < 16; i++) {
            net.trunk(i < 12 ? 0 : 1, i < 8 ? 1 : 2);
        }
        addRoutes(net);
        return net;
    }

    private static void addRoutes(CrossbarNet net) {
        net.route(0, 12, 0, 1, 10);
        net.route(0, 13, 1, 3, 5);
        net.route(0, 14, 2, 5, 4);
        net.route(0, 14, 1, 5, 4);
        net.route(1, 12, 0, 7, 1);
        net.route(1, 13, 1, 8, 1);
        net.route(1, 14, 2, 9, 1);
        net.route(2, 12, 0, 7, 2);
        net.route(2, 13, 1, 8, 2);
        net.route(2, 14, 2, 9, 2);
    }

    static void digits(CrossbarNet net, int office, int line, String digits) {
        for (char digit : digits.toCharArray()) {
            Check.due("dial(" + office + ", " + line + ", " + digit + ")", net.dial(office, line, digit - '0'), true);
        }
    }

    static void call(CrossbarNet net, int office, int line, String digits) {
        net.lift(office, line);
        digits(net, office, line, digits);
    }

    static void call(CrossbarNet net, int office, int line, String digits, int ticks) {
        call(net, office, line, digits);
        net.tick(ticks);
    }

    /** A number: the prefix's digits and a line's two. */
    static String number(String prefix, int line) {
        return prefix + line / 10 + line % 10;
    }

    /** The rotor of office 0 goes on by so many: line 23, whose primary must be idle, calls and hangs up at once. */
    static void turnRotor(CrossbarNet net, int steps) {
        for (int i = 0; i < steps; i++) {
            call(net, 0, 23, "400", 1);
            net.hang(0, 23);
        }
    }

    /** Of a primary of office 0 only these links stay idle; needs a rotor at 0, and leaves it there. */
    static void keepIdle(CrossbarNet net, int primary, int... secondaries) {
        for (int i = 0; i < 4; i++) {
            int line = 8 * primary + i;
            call(net, 0, line, number("3", line), 4);
            Check.due("what line " + line + " seizes", net.seized(0, line, 0), 4 * primary + i);
        }
        for (int secondary : secondaries) {
            net.hang(0, 8 * primary + secondary);
        }
    }

    /** Line 0 of office 0 talks with line 5 of office 0, charged 1 and again after each 10 ticks. */
    static CrossbarNet talkWithin() {
        CrossbarNet net = net();
        call(net, 0, 0, "205");
        net.tick(1);
        net.lift(0, 5);
        return net;
    }

    /** Line 0 of office 0 talks with line 5 of office 1 over trunk 0, charged 3 and again after each 5 ticks. */
    static CrossbarNet talkOverTrunk() {
        CrossbarNet net = net();
        call(net, 0, 0, "305");
        net.tick(4);
        net.lift(1, 5);
        return net;
    }

    static String seizedBy(CrossbarNet net, int office, int line) {
        StringBuilder text = new StringBuilder();
        for (int i = 0; net.seized(office, line, i) != CrossbarNet.NONE; i++) {
            text.append(i == 0 ? "" : " ").append(net.seized(office, line, i));
        }
        return text.toString();
    }

    /** All that an object tells of itself; asks more than the document's 512 calls, which this program allows. */
    static String stateOf(CrossbarNet net) {
        StringBuilder text = new StringBuilder();
        for (int o = 0; o < OFFICES; o++) {
            for (int n = 0; n < LINES; n++) {
                text.append(net.tone(o, n)).append(net.rings(o, n) ? 'r' : '-').append(net.talks(o, n)).append(' ')
                        .append(net.meter(o, n)).append('(').append(seizedBy(net, o, n)).append(") ");
            }
            text.append(idles(net, o));
            for (int to = 0; to < OFFICES; to++) {
                text.append(' ').append(net.overflow(o, to));
            }
            text.append('\n');
        }
        return text.toString();
    }

    static String idles(CrossbarNet net, int office) {
        StringBuilder text = new StringBuilder();
        for (int what = 0; what <= 5; what++) {
            text.append(what == 0 ? "" : " ").append(net.idle(office, what));
        }
        return text.toString();
    }
}
