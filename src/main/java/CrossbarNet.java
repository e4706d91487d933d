/**
 * Telephone exchanges with crossbar frames. The promises, by number, stand in the project's document.
 */
public final class CrossbarNet {
    public static final int NONE = -1;
    public static final int SILENCE = 0;
    public static final int DIAL = 1;
    public static final int RINGBACK = 2;
    public static final int BUSY = 3;
    public static final int CONGESTION = 4;
    public static final int UNKNOWN = 5;

    private static final int OFFICES = 3;
    private static final int LINES = 24;
    private static final int LINES_OF_A_PRIMARY = 8;
    private static final int SECONDARIES = 4;
    private static final int REGISTERS = 3;
    private static final int MOST_TRUNKS = 16;
    private static final int MOST_PREFIXES = 12;
    private static final int MOST_CHOICES = 3;
    private static final int HUNTS = 4;
    private static final int MOST_IN_A_HUNT = 6;
    private static final int MOST_TICKS = 100;
    private static final int MOST_UNITS = 99;
    private static final int LONGEST_PERIOD = 1000;
    private static final int DIGIT_PATIENCE = 20;
    private static final int END_PATIENCE = 12;
    private static final int DIGITS_OF_A_LINE = 2;

    // Whatever a call can seize has one code, the one that seized() tells: an office's thousands and a part of it,
    // or a trunk behind 5000. So one row in a call keeps all of it in order.
    private static final int OFFICE_CODE = 1000;
    private static final int TRUNK_CODE = 5000;
    private static final int FIRST_LINK = 0;
    private static final int END_OF_LINKS = 12;
    private static final int FIRST_JUNCTOR = 20;
    private static final int END_OF_JUNCTORS = 25;
    private static final int FIRST_REGISTER = 30;
    private static final int END_OF_REGISTERS = FIRST_REGISTER + REGISTERS;

    // A call over all three offices has at most a link, two trunks, three registers and a last link.
    private static final int MOST_SEIZED = 8;

    private final Office[] offices = new Office[OFFICES];
    private final Call[] calls = new Call[OFFICES * LINES];
    private final Trunk[] trunks = new Trunk[MOST_TRUNKS];
    private final int[][] overflows = new int[OFFICES][OFFICES];
    private int trunkCount;

    public CrossbarNet() {
        for (int o = 0; o < OFFICES; o++) {
            offices[o] = new Office(o);
            for (int n = 0; n < LINES; n++) {
                calls[o * LINES + n] = new Call(offices[o].lines[n]);
            }
        }
    }

    public int trunk(int a, int b) throws IllegalArgumentException, IllegalStateException {
        need(isOffice(a) && isOffice(b) && a != b);
        allow(trunkCount < MOST_TRUNKS);
        trunks[trunkCount] = new Trunk(a, b);
        trunkCount++;
        return trunkCount - 1;
    }

    public int route(int office, int prefix, int next, int units, int period)
            throws IllegalArgumentException, IllegalStateException {
        need(isOffice(office) && isOffice(next) && isPrefix(prefix));
        need(isWithin(units, 0, MOST_UNITS) && isWithin(period, 0, LONGEST_PERIOD));
        Office here = offices[office];
        Route route = here.routeNamed(prefix);
        if (route == null) {
            allow(here.hasRoomFor(prefix));
            route = new Route(prefix, next == office);
            here.addRoute(route);
        } else {
            allow(next != office && route.canHave(next));
        }
        if (!route.own) {
            route.choices.add(next);
        }
        route.units = units;
        route.period = period;
        return route.choices.size();
    }

    public int hunt(int office, int hunt, int line) throws IllegalArgumentException, IllegalStateException {
        need(isOffice(office) && isWithin(hunt, 0, HUNTS - 1) && isLine(line));
        Row group = offices[office].hunts[hunt];
        allow(group.size() < MOST_IN_A_HUNT && !offices[office].isInAHunt(line));
        group.add(line);
        return group.size();
    }

    public void lift(int office, int line) throws IllegalArgumentException, IllegalStateException {
        Line lifting = lineOf(office, line);
        allow(!lifting.lifted);
        lifting.lifted = true;
        Call call = lifting.call;
        if (call == null) {
            askForRegister(offices[office], lifting);
        } else if (call.called == lifting) {
            answer(call);
        }
    }

    public void hang(int office, int line) throws IllegalArgumentException, IllegalStateException {
        Line hanging = lineOf(office, line);
        allow(hanging.lifted);
        hanging.lifted = false;
        hanging.sound = SILENCE;
        Call call = hanging.call;
        if (call == null) {
            offices[office].waiting.remove(line);
        } else if (call.called == hanging) {
            call.ticksHungUp = 0;
        } else if (!call.held) {
            end(call, BUSY);
        }
    }

    public boolean dial(int office, int line, int digit) throws IllegalArgumentException, IllegalStateException {
        Line dialling = lineOf(office, line);
        need(isWithin(digit, 0, 9));
        allow(dialling.lifted);
        Call call = dialling.call;
        if (call == null || call.stage != Stage.DIALLING) {
            return false;
        }
        takeDigit(offices[office], call, digit);
        return true;
    }

    public void tick(int many) throws IllegalArgumentException {
        need(isWithin(many, 1, MOST_TICKS));
        for (int i = 0; i < many; i++) {
            for (int o = 0; o < OFFICES; o++) {
                doOldestJob(offices[o]);
            }
            sendDigits();
            letTimePass();
            giveRegisters();
        }
    }

    public boolean out(int trunk, boolean is) throws IllegalArgumentException {
        need(isWithin(trunk, 0, trunkCount - 1));
        Trunk one = trunks[trunk];
        boolean was = one.isOut;
        one.isOut = is;
        if (is && one.holder != null) {
            end(one.holder, CONGESTION);
        }
        return was;
    }

    public boolean hold(int office, int line, boolean is) throws IllegalArgumentException {
        Line called = lineOf(office, line);
        Call call = called.call;
        if (call == null || call.called != called || call.stage != Stage.TALKING) {
            return false;
        }
        call.held = is;
        if (!is && !call.caller.lifted) {
            end(call, BUSY);
        }
        return true;
    }

    public int tone(int office, int line) throws IllegalArgumentException {
        return lineOf(office, line).sound;
    }

    public boolean rings(int office, int line) throws IllegalArgumentException {
        Line asked = lineOf(office, line);
        Call call = asked.call;
        return call != null && call.called == asked && call.stage == Stage.RINGING;
    }

    public int talks(int office, int line) throws IllegalArgumentException {
        Line asked = lineOf(office, line);
        Call call = asked.call;
        if (call == null || call.stage != Stage.TALKING || !call.caller.lifted || !call.calledIsLifted()) {
            return NONE;
        }
        return call.called == asked ? call.caller.name() : call.called.name();
    }

    public int meter(int office, int line) throws IllegalArgumentException {
        return lineOf(office, line).charged;
    }

    public int seized(int office, int line, int i) throws IllegalArgumentException {
        Line asked = lineOf(office, line);
        need(i >= 0);
        Call call = asked.call;
        return call != null && call.caller == asked ? call.holdings.at(i) : NONE;
    }

    public int idle(int office, int what) throws IllegalArgumentException {
        need(isOffice(office));
        Office here = offices[office];
        switch (what) {
            case 0:
                return here.countIdle(FIRST_REGISTER, END_OF_REGISTERS);
            case 1:
                return here.countIdle(FIRST_LINK, END_OF_LINKS);
            case 2:
                return here.countIdle(FIRST_JUNCTOR, END_OF_JUNCTORS);
            case 3:
                return countIdleTrunks(office);
            case 4:
                return here.waiting.size();
            case 5:
                return here.jobs.size();
            default:
                throw new IllegalArgumentException();
        }
    }

    public int overflow(int from, int to) throws IllegalArgumentException {
        need(isOffice(from) && isOffice(to));
        return overflows[from][to];
    }

    private static void need(boolean argumentIsGood) {
        if (!argumentIsGood) {
            throw new IllegalArgumentException();
        }
    }

    private static void allow(boolean stateIsGood) {
        if (!stateIsGood) {
            throw new IllegalStateException();
        }
    }

    private static boolean isWithin(int x, int least, int most) {
        return x >= least && x <= most;
    }

    private static boolean isOffice(int office) {
        return isWithin(office, 0, OFFICES - 1);
    }

    private static boolean isLine(int line) {
        return isWithin(line, 0, LINES - 1);
    }

    private static boolean isPrefix(int prefix) {
        return isWithin(prefix, 10, 19) || isWithin(prefix, 100, 199) || isWithin(prefix, 1000, 1999);
    }

    /** Both are digits behind a 1: the 1 keeps leading zeros apart, so cutting digits off the end is enough. */
    private static boolean beginsWith(int digits, int start) {
        for (int rest = digits; rest >= start && rest > 0; rest /= 10) {
            if (rest == start) {
                return true;
            }
        }
        return false;
    }

    private static int countDigits(int digitsBehindOne) {
        int many = 0;
        for (int rest = digitsBehindOne; rest >= 10; rest /= 10) {
            many++;
        }
        return many;
    }

    private Line lineOf(int office, int line) {
        need(isOffice(office) && isLine(line));
        return offices[office].lines[line];
    }

    private void askForRegister(Office here, Line line) {
        int register = here.firstIdle(FIRST_REGISTER, END_OF_REGISTERS);
        if (register == NONE || here.waiting.size() > 0) {
            here.waiting.add(line.number);
        } else {
            beginCall(here, line, register);
        }
    }

    private void beginCall(Office here, Line line, int register) {
        Call call = calls[line.name()];
        call.startAnew(here.code(register));
        line.call = call;
        line.sound = DIAL;
        seize(call, call.register);
    }

    private void takeDigit(Office here, Call call, int digit) {
        call.number = call.number * 10 + digit;
        call.ticksWaited = 0;
        call.caller.sound = SILENCE;
        Route route = here.routeOf(call.number);
        if (route == null) {
            if (!here.canBecomePrefix(call.number)) {
                end(call, UNKNOWN);
            }
        } else if (route.digitsBehind(call.number) >= DIGITS_OF_A_LINE) {
            call.dialled = route;
            makeJob(here, call);
        }
    }

    private void makeJob(Office here, Call call) {
        call.stage = Stage.JOB;
        here.jobs.add(call.caller.name());
    }

    private void doOldestJob(Office here) {
        // Jobs come into being only by dialling and by sending, so the oldest one here is not younger than the tick.
        int oldest = here.jobs.at(0);
        if (oldest < 0 || oldest >= calls.length) {
            return;
        }
        here.jobs.remove(oldest);
        Call call = calls[oldest];
        Route route = here.routeOf(call.number);
        if (route == null || route.digitsBehind(call.number) < DIGITS_OF_A_LINE) {
            end(call, UNKNOWN);
        } else if (route.own) {
            callLine(here, call, route.lineBehind(call.number));
        } else {
            sendOnward(here, call, route);
        }
    }

    private void callLine(Office here, Call call, int line) {
        if (!isLine(line)) {
            end(call, UNKNOWN);
            return;
        }
        Line called = here.lines[here.huntFrom(line)];
        if (!called.isFree()) {
            end(call, BUSY);
            return;
        }
        boolean hasWay = call.caller.office == here.number
                ? seizeWayWithin(here, call, called)
                : seizeLink(here, call, here.idleLink(called, 0, NONE));
        if (!hasWay) {
            end(call, CONGESTION);
            return;
        }
        release(call, call.register);
        call.stage = Stage.RINGING;
        call.called = called;
        called.call = call;
        call.caller.sound = RINGBACK;
    }

    private boolean seizeWayWithin(Office here, Call call, Line called) {
        int junctor = here.firstIdle(FIRST_JUNCTOR, END_OF_JUNCTORS);
        if (junctor == NONE) {
            return false;
        }
        for (int step = 0; step < SECONDARIES; step++) {
            int link = here.idleLink(call.caller, step, NONE);
            int other = link == NONE ? NONE : here.idleLink(called, 0, link);
            if (other != NONE) {
                seizeLink(here, call, link);
                seize(call, here.code(junctor));
                seize(call, here.code(other));
                return true;
            }
        }
        return false;
    }

    /** Seizes the link by which the rotor goes on, if there is one. */
    private boolean seizeLink(Office here, Call call, int link) {
        if (link == NONE) {
            return false;
        }
        seize(call, here.code(link));
        here.rotor = (link + 1) % SECONDARIES;
        return true;
    }

    private void sendOnward(Office here, Call call, Route route) {
        for (int i = 0; i < route.choices.size(); i++) {
            int there = route.choices.at(i);
            if (isOffice(there) && !call.hasBeenAt(there) && seizeOnward(here, call, offices[there])) {
                call.digitsToSend = countDigits(call.number);
                call.stage = Stage.SENDING;
                return;
            }
        }
        end(call, CONGESTION);
    }

    private boolean seizeOnward(Office here, Call call, Office there) {
        int trunk = firstIdleTrunk(here.number, there.number);
        if (trunk == NONE) {
            overflows[here.number][there.number]++;
            return false;
        }
        int register = there.firstIdle(FIRST_REGISTER, END_OF_REGISTERS);
        if (register == NONE) {
            return false;
        }
        if (call.caller.office == here.number && !seizeLink(here, call, here.idleLink(call.caller, 0, NONE))) {
            return false;
        }
        seize(call, TRUNK_CODE + trunk);
        call.nextRegister = there.code(register);
        seize(call, call.nextRegister);
        call.goTo(there.number);
        return true;
    }

    private void sendDigits() {
        for (int o = 0; o < OFFICES; o++) {
            for (int part = FIRST_REGISTER; part < END_OF_REGISTERS; part++) {
                Call call = offices[o].holders[part];
                // A call that is sending also has the register it sends to: that one must not send too.
                if (call != null && call.stage == Stage.SENDING && call.register == offices[o].code(part)) {
                    sendDigit(call);
                }
            }
        }
    }

    private void sendDigit(Call call) {
        call.digitsToSend--;
        if (call.digitsToSend <= 0) {
            release(call, call.register);
            call.register = call.nextRegister;
            makeJob(offices[call.place], call);
        }
    }

    private void letTimePass() {
        for (int i = 0; i < calls.length; i++) {
            Call call = calls[i];
            if (call.stage == Stage.DIALLING) {
                waitForDigit(call);
            } else if (call.stage == Stage.TALKING) {
                spendTalkTick(call);
            }
        }
    }

    private void waitForDigit(Call call) {
        call.ticksWaited++;
        if (call.ticksWaited >= DIGIT_PATIENCE) {
            end(call, BUSY);
        }
    }

    private void spendTalkTick(Call call) {
        if (call.calledIsLifted()) {
            call.ticksSinceCharge++;
            int period = call.period();
            if (period > 0 && call.ticksSinceCharge >= period) {
                charge(call);
            }
        } else if (!call.held) {
            call.ticksHungUp++;
            if (call.ticksHungUp >= END_PATIENCE) {
                end(call, BUSY);
            }
        }
    }

    private void giveRegisters() {
        for (int o = 0; o < OFFICES; o++) {
            Office here = offices[o];
            for (int part = FIRST_REGISTER; part < END_OF_REGISTERS; part++) {
                int longest = here.waiting.at(0);
                if (isLine(longest) && here.holders[part] == null) {
                    here.waiting.remove(longest);
                    beginCall(here, here.lines[longest], part);
                }
            }
        }
    }

    private void answer(Call call) {
        if (call.stage == Stage.RINGING) {
            call.stage = Stage.TALKING;
            call.caller.sound = SILENCE;
            charge(call);
        }
    }

    private void charge(Call call) {
        call.caller.charged += call.units();
        call.ticksSinceCharge = 0;
    }

    /** A call that fails and one that is over end alike: they differ in the tone of the line that calls. */
    private void end(Call call, int callerSound) {
        for (int i = 0; i < call.holdings.size(); i++) {
            setHolder(call.holdings.at(i), null);
        }
        call.holdings.clear();
        offices[call.place].jobs.remove(call.caller.name());
        call.caller.leaveCall(callerSound);
        if (call.called != null) {
            call.called.leaveCall(BUSY);
        }
        call.called = null;
        call.held = false;
        call.stage = Stage.NO_CALL;
    }

    private void seize(Call call, int code) {
        setHolder(code, call);
        call.holdings.add(code);
    }

    private void release(Call call, int code) {
        setHolder(code, null);
        call.holdings.remove(code);
    }

    private void setHolder(int code, Call call) {
        int office = code / OFFICE_CODE;
        int part = code % OFFICE_CODE;
        if (code >= TRUNK_CODE) {
            if (code - TRUNK_CODE < trunkCount) {
                trunks[code - TRUNK_CODE].holder = call;
            }
        } else if (code >= 0 && office < OFFICES && part < END_OF_REGISTERS) {
            offices[office].holders[part] = call;
        }
    }

    private int firstIdleTrunk(int here, int there) {
        for (int t = 0; t < trunkCount; t++) {
            if (trunks[t].isReady() && trunks[t].endsAt(here) && trunks[t].endsAt(there)) {
                return t;
            }
        }
        return NONE;
    }

    private int countIdleTrunks(int office) {
        int many = 0;
        for (int t = 0; t < trunkCount; t++) {
            if (trunks[t].isReady() && trunks[t].endsAt(office)) {
                many++;
            }
        }
        return many;
    }

    private enum Stage { NO_CALL, DIALLING, JOB, SENDING, RINGING, TALKING }

    private static final class Office {
        final int number;
        final Line[] lines = new Line[LINES];
        final Call[] holders = new Call[END_OF_REGISTERS];
        final Route[] routes = new Route[MOST_PREFIXES];
        final Row[] hunts = new Row[HUNTS];
        final Row waiting = new Row(LINES);
        // Each job has a register of its office, so there are never more jobs than registers.
        final Row jobs = new Row(REGISTERS);
        int routeCount;
        int rotor;

        Office(int number) {
            this.number = number;
            for (int n = 0; n < LINES; n++) {
                lines[n] = new Line(number, n);
            }
            for (int h = 0; h < HUNTS; h++) {
                hunts[h] = new Row(MOST_IN_A_HUNT);
            }
        }

        int code(int part) {
            return OFFICE_CODE * number + part;
        }

        Route routeNamed(int prefix) {
            for (int r = 0; r < routeCount; r++) {
                if (routes[r].prefix == prefix) {
                    return routes[r];
                }
            }
            return null;
        }

        boolean hasRoomFor(int prefix) {
            return routeCount < MOST_PREFIXES && routeOf(prefix) == null && !canBecomePrefix(prefix);
        }

        void addRoute(Route route) {
            if (routeCount < MOST_PREFIXES) {
                routes[routeCount] = route;
                routeCount++;
            }
        }

        /** The route whose prefix the digits begin with. */
        Route routeOf(int digits) {
            for (int r = 0; r < routeCount; r++) {
                if (beginsWith(digits, routes[r].prefix)) {
                    return routes[r];
                }
            }
            return null;
        }

        boolean canBecomePrefix(int digits) {
            for (int r = 0; r < routeCount; r++) {
                if (beginsWith(routes[r].prefix, digits)) {
                    return true;
                }
            }
            return false;
        }

        boolean isInAHunt(int line) {
            for (int h = 0; h < HUNTS; h++) {
                if (hunts[h].has(line)) {
                    return true;
                }
            }
            return false;
        }

        /** The line to call where this one was dialled: itself, or the first free one of the hunt that it leads. */
        int huntFrom(int line) {
            for (int h = 0; h < HUNTS; h++) {
                if (hunts[h].at(0) == line) {
                    return firstFree(hunts[h], line);
                }
            }
            return line;
        }

        private int firstFree(Row hunt, int otherwise) {
            for (int i = 0; i < hunt.size(); i++) {
                int line = hunt.at(i);
                if (isLine(line) && lines[line].isFree()) {
                    return line;
                }
            }
            return otherwise;
        }

        int firstIdle(int from, int end) {
            for (int part = from; part < end; part++) {
                if (holders[part] == null) {
                    return part;
                }
            }
            return NONE;
        }

        int countIdle(int from, int end) {
            int many = 0;
            for (int part = from; part < end; part++) {
                if (holders[part] == null) {
                    many++;
                }
            }
            return many;
        }

        /** The first idle link of the line's primary but the one barred, from so many steps behind the rotor on. */
        int idleLink(Line line, int firstStep, int barred) {
            for (int step = firstStep; step < SECONDARIES; step++) {
                int link = line.firstLink() + (rotor + step) % SECONDARIES;
                if (link != barred && holders[link] == null) {
                    return link;
                }
            }
            return NONE;
        }
    }

    private static final class Line {
        final int office;
        final int number;
        boolean lifted;
        int sound = SILENCE;
        int charged;
        Call call;

        Line(int office, int number) {
            this.office = office;
            this.number = number;
        }

        int name() {
            return office * LINES + number;
        }

        int firstLink() {
            return number / LINES_OF_A_PRIMARY * SECONDARIES;
        }

        boolean isFree() {
            return !lifted && call == null;
        }

        void leaveCall(int soundIfLifted) {
            call = null;
            sound = lifted ? soundIfLifted : SILENCE;
        }
    }

    /** The call of one line that calls: a line calls by one call at a time, so its object serves for all of them. */
    private static final class Call {
        final Line caller;
        final Row holdings = new Row(MOST_SEIZED);
        Stage stage = Stage.NO_CALL;
        Line called;
        Route dialled;
        boolean held;
        int number;
        int place;
        int officesSoFar;
        int register;
        int nextRegister;
        int digitsToSend;
        int ticksWaited;
        int ticksSinceCharge;
        int ticksHungUp;

        Call(Line caller) {
            this.caller = caller;
        }

        void startAnew(int firstRegister) {
            stage = Stage.DIALLING;
            dialled = null;
            number = 1;
            officesSoFar = 0;
            goTo(caller.office);
            register = firstRegister;
            ticksWaited = 0;
        }

        void goTo(int office) {
            place = office;
            officesSoFar |= 1 << office;
        }

        boolean hasBeenAt(int office) {
            return (officesSoFar >> office & 1) != 0;
        }

        boolean calledIsLifted() {
            return called != null && called.lifted;
        }

        // Asked for anew each time: a route's units and period may be set while a call goes on.
        int units() {
            return dialled == null ? 0 : dialled.units;
        }

        int period() {
            return dialled == null ? 0 : dialled.period;
        }
    }

    private static final class Route {
        final int prefix;
        final boolean own;
        final Row choices = new Row(MOST_CHOICES);
        int units;
        int period;

        Route(int prefix, boolean own) {
            this.prefix = prefix;
            this.own = own;
        }

        boolean canHave(int next) {
            return !own && choices.size() < MOST_CHOICES && !choices.has(next);
        }

        int digitsBehind(int number) {
            return countDigits(number) - countDigits(prefix);
        }

        /** The two digits behind the prefix; what stands behind these is left out. */
        int lineBehind(int number) {
            int rest = number;
            for (int more = digitsBehind(number); more > DIGITS_OF_A_LINE; more--) {
                rest /= 10;
            }
            return rest % 100;
        }
    }

    private static final class Trunk {
        final int a;
        final int b;
        boolean isOut;
        Call holder;

        Trunk(int a, int b) {
            this.a = a;
            this.b = b;
        }

        boolean isReady() {
            return !isOut && holder == null;
        }

        boolean endsAt(int office) {
            return a == office || b == office;
        }
    }

    /** Numbers in the order in which they came, as many as it has room for. */
    private static final class Row {
        private final int[] items;
        private int count;

        Row(int room) {
            items = new int[room];
        }

        int size() {
            return count;
        }

        int at(int i) {
            return i >= 0 && i < count ? items[i] : NONE;
        }

        boolean has(int item) {
            for (int i = 0; i < count; i++) {
                if (items[i] == item) {
                    return true;
                }
            }
            return false;
        }

        void add(int item) {
            if (count < items.length) {
                items[count] = item;
                count++;
            }
        }

        void remove(int item) {
            int kept = 0;
            for (int i = 0; i < count; i++) {
                if (items[i] != item) {
                    items[kept] = items[i];
                    kept++;
                }
            }
            count = kept;
        }

        void clear() {
            count = 0;
        }
    }
}
