import java.util.HashSet;
import java.util.LinkedHashMap;
import java.util.Map;
import java.util.Set;

/** What the terms say of offices and of what they have: the first and the last one of each kind. */
final class OfficeBoundaries {
    private static final String TERMS = "Terms";
    private static final String OFFICES = "OFFICES 0 .. 2 have LINES 0 .. 23, eight at each of three PRIMARIES "
            + "(line n at n / 8), four SECONDARIES 0 .. 3, a LINK between each primary and each secondary, "
            + "JUNCTORS 0 .. 4, REGISTERS 0 .. 2, a MARKER with a ROTOR (0 at first).";
    private static final String TRUNKS = "TRUNKS 0 .. 15 lie between two offices.";
    private static final String SEIZED = "Links, junctors, registers, trunks are IDLE or SEIZED by one call;";
    private static final String FIRST = "\"the first\" one is that with the least number.";

    private OfficeBoundaries() {
    }

    static void all() {
        Sentence.holds("What it is", "An object is used for at most 512 calls after it has been made",
                OfficeBoundaries::the512thCallIsAnswered);
        Sentence.holds(TERMS, OFFICES, OfficeBoundaries::officesEndAt2);
        Sentence.holds(TERMS, OFFICES, OfficeBoundaries::linesEndAt23);
        Sentence.holds(TERMS, OFFICES, OfficeBoundaries::eachLineIsAtItsPrimary);
        Sentence.holds(TERMS, OFFICES, OfficeBoundaries::thereAreTwelveLinks);
        Sentence.holds(TERMS, OFFICES, OfficeBoundaries::thereAreFiveJunctors);
        Sentence.holds(TERMS, OFFICES, OfficeBoundaries::thereAreThreeRegisters);
        Sentence.holds(TERMS, OFFICES, OfficeBoundaries::eachRotorIsAtNoughtAtFirst);
        Sentence.holds(TERMS, TRUNKS, OfficeBoundaries::allSixteenTrunksAreSeized);
        Sentence.holds(TERMS, SEIZED, OfficeBoundaries::nothingIsSeizedTwice);
        Sentence.holds(TERMS, FIRST, OfficeBoundaries::theLeastNumberIsTheFirst);
    }

    private static void the512thCallIsAnswered() {
        CrossbarNet net = new CrossbarNet();
        net.route(0, 12, 0, 99, 1);
        net.lift(0, 0);
        Scene.digits(net, 0, 0, "201");
        net.tick(1);
        net.lift(0, 1);
        for (int call = 8; call <= 511; call++) {
            net.tick(100);
        }
        Check.due("the most that can be charged", net.meter(0, 0), 99 + 504 * 100 * 99);
    }

    private static Map<String, Check.Place> callsOfAPlace(CrossbarNet net) {
        Map<String, Check.Place> calls = new LinkedHashMap<>();
        calls.put("hunt", (office, line) -> net.hunt(office, 0, line));
        calls.put("lift", net::lift);
        calls.put("dial", (office, line) -> net.dial(office, line, 0));
        calls.put("hold", (office, line) -> net.hold(office, line, true));
        calls.put("tone", net::tone);
        calls.put("rings", net::rings);
        calls.put("talks", net::talks);
        calls.put("meter", net::meter);
        calls.put("seized", (office, line) -> net.seized(office, line, 0));
        calls.put("hang", net::hang);
        return calls;
    }

    private static void officesEndAt2() {
        CrossbarNet net = new CrossbarNet();
        Map<String, Check.Place> calls = callsOfAPlace(net);
        calls.put("idle", (office, other) -> net.idle(office, 0));
        calls.put("overflow from", (office, other) -> net.overflow(office, 1));
        calls.put("overflow to", (office, other) -> net.overflow(1, office));
        calls.put("trunk a", (office, other) -> net.trunk(office, 1));
        calls.put("trunk b", (office, other) -> net.trunk(1, office));
        calls.put("route office", (office, other) -> net.route(office, 12, 1, 0, 0));
        calls.put("route next", (office, other) -> net.route(1, 12, office, 0, 0));
        calls.forEach((name, call) -> {
            for (int office : new int[] {Integer.MIN_VALUE, -1, 3, Integer.MAX_VALUE}) {
                Check.badArgument(name + ", office " + office, net, () -> call.at(office, 0));
            }
            for (int office : new int[] {0, 2}) {
                Check.goodArgument(name + ", office " + office, () -> call.at(office, 0));
            }
        });
    }

    private static void linesEndAt23() {
        CrossbarNet net = new CrossbarNet();
        callsOfAPlace(net).forEach((name, call) -> {
            for (int office = 0; office < 3; office++) {
                int o = office;
                for (int line : new int[] {Integer.MIN_VALUE, -1, 24, Integer.MAX_VALUE}) {
                    Check.badArgument(name + ", line " + line, net, () -> call.at(o, line));
                }
                for (int line : new int[] {0, 23}) {
                    Check.goodArgument(name + ", line " + line, () -> call.at(o, line));
                }
            }
        });
    }

    private static void eachLineIsAtItsPrimary() {
        for (int n = 0; n < 24; n++) {
            CrossbarNet net = Scene.net();
            int firstLink = n / 8 * 4;
            Scene.call(net, 0, n, Scene.number("3", n), 4);
            Check.due("links of line " + n, Scene.seizedBy(net, 0, n), firstLink + " 5000 " + (1000 + firstLink));
            Check.due("line " + n + " rings", net.rings(1, n), true);
        }
    }

    private static void thereAreTwelveLinks() {
        CrossbarNet net = new CrossbarNet();
        for (int i = 0; i < 13; i++) {
            net.trunk(1, 0);
        }
        net.route(0, 13, 1, 0, 0);
        net.route(1, 13, 1, 0, 0);
        for (int link = 0; link < 12; link++) {
            int line = link / 4 * 8 + link % 4;
            Check.due("idle links here", net.idle(0, 1), 12 - link);
            Check.due("idle links there", net.idle(1, 1), 12 - link);
            Scene.call(net, 0, line, Scene.number("3", line), 4);
            Check.due("link " + link, Scene.seizedBy(net, 0, line), link + " " + (5000 + link) + " " + (1000 + link));
        }
        Check.due("no link is idle here", net.idle(0, 1), 0);
        Check.due("no link is idle there", net.idle(1, 1), 0);
        for (int line : new int[] {7, 15, 23}) {
            Scene.call(net, 0, line, "307", 1);
            Check.due("a thirteenth link for line " + line, net.tone(0, line), CrossbarNet.CONGESTION);
        }
    }

    private static void thereAreFiveJunctors() {
        CrossbarNet net = Scene.net();
        for (int n = 0; n < 4; n++) {
            Scene.call(net, 0, n, Scene.number("2", 8 + n), 1);
            Check.due("junctor " + n, Scene.seizedBy(net, 0, n), n + " " + (20 + n) + " " + (4 + n));
            Check.due("idle junctors", net.idle(0, 2), 4 - n);
        }
        Scene.call(net, 0, 16, "217", 1);
        Check.due("junctor 4", Scene.seizedBy(net, 0, 16), "8 24 9");
        Check.due("no junctor is idle", net.idle(0, 2), 0);
        Scene.call(net, 0, 18, "219", 1);
        Check.due("a sixth junctor", net.tone(0, 18), CrossbarNet.CONGESTION);
        Check.due("the links that it would need", net.idle(0, 1), 2);
        net.hang(0, 18);
        net.hang(0, 2);
        Scene.call(net, 0, 18, "219", 1);
        Check.due("the one that is idle again", Scene.seizedBy(net, 0, 18), "10 22 11");
    }

    private static void thereAreThreeRegisters() {
        for (int office = 0; office < 3; office++) {
            CrossbarNet net = new CrossbarNet();
            for (int i = 0; i < 3; i++) {
                Check.due("idle registers", net.idle(office, 0), 3 - i);
                net.lift(office, 23 - i);
                Check.due("register " + i, net.seized(office, 23 - i, 0), 1000 * office + 30 + i);
            }
            net.lift(office, 0);
            Check.due("a fourth register", net.seized(office, 0, 0), CrossbarNet.NONE);
            Check.due("no register is idle", net.idle(office, 0), 0);
            Check.due("one waits", net.idle(office, 4), 1);
        }
    }

    private static void eachRotorIsAtNoughtAtFirst() {
        for (int office = 0; office < 3; office++) {
            CrossbarNet net = Scene.net();
            Scene.call(net, office, 16, 2 + office + "00", 1);
            int base = 1000 * office;
            Check.due("the first call within office " + office, Scene.seizedBy(net, office, 16),
                    base + 8 + " " + (base + 20) + " " + base);
        }
    }

    private static void allSixteenTrunksAreSeized() {
        CrossbarNet net = Scene.wideNet();
        int trunk = 0;
        for (int line : new int[] {0, 1, 2, 3, 8, 9, 10, 11, 16, 17, 18, 19}) {
            Scene.call(net, 0, line, line < 16 ? Scene.number("3", line) : Scene.number("4", line - 16), 4);
            Check.due("trunk of line " + line, net.seized(0, line, 1), 5000 + trunk);
            trunk++;
        }
        for (int line = 16; line < 20; line++) {
            Scene.call(net, 1, line, Scene.number("4", line - 8), 4);
            Check.due("trunk of line " + line + " of office 1", net.seized(1, line, 1), 5000 + trunk);
            trunk++;
        }
        for (int office = 0; office < 3; office++) {
            Check.due("idle trunks of office " + office, net.idle(office, 3), 0);
        }
        Scene.call(net, 2, 16, "220", 1);
        Check.due("one more", net.tone(2, 16), CrossbarNet.CONGESTION);
        Check.due("there was no trunk", net.overflow(2, 0), 1);
    }

    private static void nothingIsSeizedTwice() {
        CrossbarNet net = Scene.wideNet();
        Scene.call(net, 0, 0, "201", 1);
        Scene.call(net, 0, 2, "303", 4);
        Scene.call(net, 1, 2, "204", 4);
        Scene.call(net, 1, 5, "306", 1);
        Scene.call(net, 2, 2, "305", 1);
        net.lift(0, 9);
        net.lift(1, 9);
        Set<Integer> seen = new HashSet<>();
        int many = 0;
        for (int[] caller : new int[][] {{0, 0}, {0, 2}, {1, 2}, {1, 5}, {2, 2}, {0, 9}, {1, 9}}) {
            int code;
            for (int i = 0; (code = net.seized(caller[0], caller[1], i)) != CrossbarNet.NONE; i++) {
                seen.add(code);
                many++;
            }
        }
        Check.due("how many are seized", many, 3 + 3 + 3 + 3 + 4 + 1 + 1);
        Check.due("how many there are of these", seen.size(), many);
    }

    private static void theLeastNumberIsTheFirst() {
        CrossbarNet net = Scene.wideNet();
        Scene.call(net, 0, 0, "300", 4);
        Scene.call(net, 0, 1, "301", 4);
        Scene.call(net, 0, 2, "302", 4);
        net.hang(0, 1);
        net.hang(0, 0);
        for (int line = 8; line < 11; line++) {
            net.lift(0, line);
        }
        net.hang(0, 9);
        net.hang(0, 8);
        Scene.call(net, 0, 11, "303");
        Check.due("the first register", net.seized(0, 11, 0), 30);
        net.tick(1);
        Check.due("the first trunk", net.seized(0, 11, 2), 5000);
        net.lift(0, 12);
        Check.due("the next register", net.seized(0, 12, 0), 31);
    }
}
