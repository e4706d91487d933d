import java.util.HashSet;
import java.util.Random;
import java.util.Set;

/** Long runs of calls by a fixed seed: what must hold after each call, whatever came before. */
public final class RandomRunsTest {
    private static final int RUNS = 150;
    private static final int CALLS = 500;
    private static final int[] ALL = {3, 12, 5};

    public static void main(String[] args) {
        for (int run = 0; run < RUNS; run++) {
            Random random = new Random(run);
            CrossbarNet net = setUp(random);
            for (int i = 0; i < CALLS; i++) {
                String before = Scene.stateOf(net);
                if (!act(net, random)) {
                    Check.due("run " + run + ", what throws changes nothing", Scene.stateOf(net), before);
                }
                look("run " + run + ", call " + i, net);
            }
            allIsFreeAgain("run " + run, net);
        }
        Check.finish();
    }

    private static CrossbarNet setUp(Random random) {
        CrossbarNet net = new CrossbarNet();
        int trunks = random.nextInt(17);
        for (int i = 0; i < trunks; i++) {
            int a = random.nextInt(3);
            net.trunk(a, (a + 1 + random.nextInt(2)) % 3);
        }
        for (int o = 0; o < 3; o++) {
            for (int to = 0; to < 3; to++) {
                net.route(o, 12 + to, to, 1 + random.nextInt(9), random.nextInt(6));
                if (to != o && random.nextBoolean()) {
                    net.route(o, 12 + to, 3 - to - o, 1 + random.nextInt(9), random.nextInt(6));
                }
            }
            net.route(o, 150 + random.nextInt(50), random.nextInt(3), 1, 1);
        }
        return net;
    }

    /** Whether the call was taken; anything but the document's two exceptions ends the test. */
    private static boolean act(CrossbarNet net, Random random) {
        int office = random.nextInt(3);
        int line = random.nextInt(random.nextBoolean() ? 24 : 6);
        try {
            switch (random.nextInt(12)) {
                case 0, 1 -> net.lift(office, line);
                case 2 -> net.hang(office, line);
                case 3 -> net.tick(1 + random.nextInt(random.nextBoolean() ? 3 : 15));
                case 4 -> net.hold(office, line, random.nextBoolean());
                case 5 -> net.out(random.nextInt(16), random.nextInt(4) == 0);
                case 6 -> net.hunt(office, random.nextInt(4), line);
                case 7 -> liftWhatRings(net);
                case 8 -> net.route(random.nextInt(4), 10 + random.nextInt(150), random.nextInt(3), 1, 2);
                default -> {
                    net.lift(office, line);
                    net.dial(office, line, 2 + random.nextInt(3));
                    net.dial(office, line, random.nextInt(3));
                    net.dial(office, line, random.nextInt(5));
                }
            }
            return true;
        } catch (IllegalArgumentException | IllegalStateException e) {
            return false;
        }
    }

    private static void liftWhatRings(CrossbarNet net) {
        for (int name = 0; name < 72; name++) {
            if (net.rings(name / 24, name % 24)) {
                net.lift(name / 24, name % 24);
                return;
            }
        }
    }

    private static void look(String when, CrossbarNet net) {
        Set<Integer> seized = new HashSet<>();
        int[][] busy = new int[3][3];
        for (int name = 0; name < 72; name++) {
            int other = net.talks(name / 24, name % 24);
            if (other != CrossbarNet.NONE) {
                Check.due(when + ": they talk with each other", net.talks(other / 24, other % 24), name);
            }
            int code;
            for (int i = 0; (code = net.seized(name / 24, name % 24, i)) != CrossbarNet.NONE; i++) {
                Check.due(when + ": one call has " + code, seized.add(code), true);
                if (code < 5000) {
                    busy[code / 1000][code % 1000 >= 30 ? 0 : code % 1000 >= 20 ? 2 : 1]++;
                }
            }
        }
        for (int o = 0; o < 3; o++) {
            for (int what = 0; what < 3; what++) {
                Check.due(when + ": idle(" + o + ", " + what + ")", net.idle(o, what), ALL[what] - busy[o][what]);
            }
            Check.due(when + ": each job has a register", net.idle(o, 5) <= 3 - net.idle(o, 0), true);
        }
    }

    private static void allIsFreeAgain(String when, CrossbarNet net) {
        for (int name = 0; name < 72; name++) {
            net.hold(name / 24, name % 24, false);
            try {
                net.hang(name / 24, name % 24);
            } catch (IllegalStateException e) {
                continue;
            }
        }
        for (int trunk = 0; trunk < 16; trunk++) {
            try {
                net.out(trunk, false);
            } catch (IllegalArgumentException e) {
                break;
            }
        }
        for (int o = 0; o < 3; o++) {
            Check.due(when + ": registers", net.idle(o, 0), 3);
            Check.due(when + ": links", net.idle(o, 1), 12);
            Check.due(when + ": junctors", net.idle(o, 2), 5);
            Check.due(when + ": lines that wait", net.idle(o, 4), 0);
            Check.due(when + ": jobs", net.idle(o, 5), 0);
        }
        for (int name = 0; name < 72; name++) {
            Check.due(when + ": tone", net.tone(name / 24, name % 24), CrossbarNet.SILENCE);
            Check.due(when + ": rings", net.rings(name / 24, name % 24), false);
        }
    }
}
