/**
 * Three tower cranes on one site: their jibs are braked ahead of arcs that are closed, arcs where
 * two could meet are shared by rights that go over a bus which loses and delays, trolleys and hooks
 * move within what the load allows.
 */
public final class CraneSite {
    private static final int CRANES = 3;
    private static final int PAIRS = 3;
    private static final int CIRCLE = 3600;
    private static final int MOST_TICKS = 1000;

    /** The crane of the lower number, by pair. */
    private static final int[] KEEPERS = {0, 0, 1};
    /** The other crane, by pair. */
    private static final int[] ASKERS = {1, 2, 2};

    private final Crane[] cranes = new Crane[CRANES];
    private final Keeper[] keepers = new Keeper[PAIRS];
    private final Asker[] askers = new Asker[PAIRS];
    private final Bus wire = new Bus();
    private int time;

    public CraneSite() {
        for (int c = 0; c < CRANES; c++) {
            cranes[c] = new Crane();
        }
        for (int p = 0; p < PAIRS; p++) {
            keepers[p] = new Keeper(p);
            askers[p] = new Asker(p);
        }
    }

    public void setUp(int crane, int angle) throws IllegalArgumentException, IllegalStateException {
        if (!isWithin(crane, 0, CRANES - 1) || !isWithin(angle, 0, CIRCLE - 1)) {
            throw new IllegalArgumentException();
        }
        if (time != 0) {
            throw new IllegalStateException();
        }
        cranes[crane].angle = angle;
    }

    public int point(int crane, int radius, int load) throws IllegalArgumentException, IllegalStateException {
        if (!isWithin(crane, 0, CRANES - 1) || !isWithin(radius, 0, Crane.MOST_TROLLEY)
                || !isWithin(load, 0, Crane.MOST_LOAD) || !cranes[crane].table.risesWith(radius)) {
            throw new IllegalArgumentException();
        }
        LoadTable table = cranes[crane].table;
        if (table.isFull()) {
            throw new IllegalStateException();
        }
        table.add(radius, load);
        return table.count;
    }

    public int forbid(int crane, int from, int size) throws IllegalArgumentException, IllegalStateException {
        if (!isWithin(crane, 0, CRANES - 1) || !isArc(from, size)) {
            throw new IllegalArgumentException();
        }
        if (time != 0 || cranes[crane].forbidden == Crane.MOST_FORBIDDEN) {
            throw new IllegalStateException();
        }
        return cranes[crane].addForbidden(from, size);
    }

    public void share(int pair, int keeperFrom, int keeperSize, int askerFrom, int askerSize)
            throws IllegalArgumentException, IllegalStateException {
        if (!isWithin(pair, 0, PAIRS - 1) || !isArc(keeperFrom, keeperSize) || !isArc(askerFrom, askerSize)) {
            throw new IllegalArgumentException();
        }
        if (time != 0 || keepers[pair].arc.exists()) {
            throw new IllegalStateException();
        }
        keepers[pair].arc.lay(keeperFrom, keeperSize);
        askers[pair].arc.lay(askerFrom, askerSize);
        cranes[KEEPERS[pair]].addArc(keepers[pair].arc);
        cranes[ASKERS[pair]].addArc(askers[pair].arc);
    }

    public void order(int crane, int what, int order) throws IllegalArgumentException {
        if (!isWithin(crane, 0, CRANES - 1) || !isOrder(what, order)) {
            throw new IllegalArgumentException();
        }
        switch (what) {
            case 0:
                cranes[crane].slewOrder = order;
                break;
            case 1:
                cranes[crane].trolleyOrder = order;
                break;
            default:
                cranes[crane].hookOrder = order;
                break;
        }
    }

    public void load(int crane, int load) throws IllegalArgumentException {
        if (!isWithin(crane, 0, CRANES - 1) || !isWithin(load, 0, Crane.MOST_LOAD)) {
            throw new IllegalArgumentException();
        }
        cranes[crane].load = load;
    }

    public int fate(int f) throws IllegalArgumentException, IllegalStateException {
        if (!isWithin(f, 0, Bus.MOST_DELAY)) {
            throw new IllegalArgumentException();
        }
        if (wire.fatesWaiting == Bus.MOST_FATES) {
            throw new IllegalStateException();
        }
        wire.addFate(f);
        return wire.fatesWaiting;
    }

    public int tick(int n) throws IllegalArgumentException {
        if (!isWithin(n, 1, MOST_TICKS)) {
            throw new IllegalArgumentException();
        }
        for (int i = 0; i < n; i++) {
            runOneTick();
        }
        return time;
    }

    public int look(int crane, int what) throws IllegalArgumentException {
        if (!isWithin(crane, 0, CRANES - 1) || !isWithin(what, 0, 7)) {
            throw new IllegalArgumentException();
        }
        Crane seen = cranes[crane];
        switch (what) {
            case 0:
                return seen.angle;
            case 1:
                return seen.speed;
            case 2:
                return seen.trolley;
            case 3:
                return seen.hook;
            case 4:
                return seen.load;
            case 5:
                return seen.table.at(seen.trolley);
            case 6:
                return asNumber(seen.isOverloaded());
            default:
                return seen.closedArcsAround();
        }
    }

    public int pair(int pair, int what) throws IllegalArgumentException {
        if (!isWithin(pair, 0, PAIRS - 1) || !isWithin(what, 0, 4)) {
            throw new IllegalArgumentException();
        }
        switch (what) {
            case 0:
                return keepers[pair].owner;
            case 1:
                return askers[pair].doing;
            case 2:
                return time - keepers[pair].heardAt;
            case 3:
                return asNumber(keepers[pair].arc.has(cranes[KEEPERS[pair]].angle));
            default:
                return asNumber(askers[pair].arc.has(cranes[ASKERS[pair]].angle));
        }
    }

    public int bus(int what) throws IllegalArgumentException {
        if (!isWithin(what, 0, 3)) {
            throw new IllegalArgumentException();
        }
        switch (what) {
            case 0:
                return wire.underWayCount;
            case 1:
                return wire.sent;
            case 2:
                return wire.lost;
            default:
                return wire.came;
        }
    }

    private void runOneTick() {
        time++;
        deliverDue();
        for (int c = 0; c < CRANES; c++) {
            takeTurns(c);
            cranes[c].slew();
            cranes[c].moveTrolley();
            cranes[c].moveHook();
        }
        wire.takeOutbox(time);
    }

    private void deliverDue() {
        for (int i = 0; i < Bus.MOST_UNDER_WAY; i++) {
            Message message = wire.takeNextDue(time);
            if (message == null) {
                return;
            }
            if (message.isForAsker()) {
                askers[message.pair].hear(message);
            } else {
                keepers[message.pair].hear(message, time, wire);
            }
        }
    }

    private void takeTurns(int crane) {
        for (int p = 0; p < PAIRS; p++) {
            if (KEEPERS[p] == crane) {
                keepers[p].takeTurn(cranes[crane], time);
            } else if (ASKERS[p] == crane) {
                askers[p].takeTurn(cranes[crane], time, wire);
            }
        }
    }

    private static boolean isOrder(int what, int order) {
        switch (what) {
            case 0:
                return isWithin(order, -Crane.MOST_SPEED, Crane.MOST_SPEED);
            case 1:
                return isWithin(order, -Crane.MOST_TROLLEY_ORDER, Crane.MOST_TROLLEY_ORDER);
            case 2:
                return isWithin(order, -Crane.MOST_HOOK_ORDER, Crane.MOST_HOOK_ORDER);
            default:
                return false;
        }
    }

    private static boolean isArc(int from, int size) {
        return isWithin(from, 0, CIRCLE - 1) && isWithin(size, 1, CIRCLE - 1);
    }

    private static boolean isWithin(int value, int least, int most) {
        return value >= least && value <= most;
    }

    private static int asNumber(boolean holds) {
        return holds ? 1 : 0;
    }

    /** An arc on one crane. A forbidden one stays closed; keeper and asker open their shared ones. */
    private static final class Arc {
        int from;
        int size;
        boolean closed = true;

        void lay(int from, int size) {
            this.from = from;
            this.size = size;
        }

        boolean exists() {
            return size > 0;
        }

        boolean has(int angle) {
            return Math.floorMod(angle - from, CIRCLE) < size;
        }

        /** How many angles a crane outside the arc turns until it is in it; sense is a signed number. */
        int ahead(int angle, int sense) {
            int end = from + size - 1;
            return sense > 0 ? Math.floorMod(from - angle, CIRCLE) : Math.floorMod(angle - end, CIRCLE);
        }
    }

    /** The greatest load by radius. */
    private static final class LoadTable {
        static final int MOST_POINTS = 8;

        final int[] radii = new int[MOST_POINTS];
        final int[] loads = new int[MOST_POINTS];
        int count;

        boolean isFull() {
            return count >= MOST_POINTS;
        }

        boolean risesWith(int radius) {
            return count == 0 || radius > radii[count - 1];
        }

        void add(int radius, int load) {
            radii[count] = radius;
            loads[count] = load;
            count++;
        }

        int at(int radius) {
            for (int i = 0; i < count; i++) {
                if (radius <= radii[i]) {
                    return i == 0 ? loads[0] : onLineTo(i, radius);
                }
            }
            return 0;
        }

        private int onLineTo(int i, int radius) {
            int width = radii[i] - radii[i - 1];
            if (width <= 0) {
                return loads[i];
            }
            int rise = loads[i] - loads[i - 1];
            // A falling line is rounded down too, so plain division, which goes towards 0, would be wrong.
            return loads[i - 1] + Math.floorDiv(rise * (radius - radii[i - 1]), width);
        }
    }

    /** What one crane does by itself, with the arcs that bind it. */
    private static final class Crane {
        static final int MOST_SPEED = 10;
        static final int MOST_TROLLEY = 6000;
        static final int MOST_TROLLEY_ORDER = 5;
        static final int MOST_HOOK = 8000;
        static final int MOST_HOOK_ORDER = 20;
        static final int MOST_LOAD = 1000;
        static final int MOST_FORBIDDEN = 4;
        /** Each crane is of two pairs. */
        static final int MOST_ARCS = MOST_FORBIDDEN + 2;
        static final int WANTED_WITHIN = 200;

        final LoadTable table = new LoadTable();
        final Arc[] arcs = new Arc[MOST_ARCS];
        int arcCount;
        int forbidden;
        int angle;
        int speed;
        int slewOrder;
        int trolley;
        int trolleyOrder;
        int load;
        int hook;
        int hookOrder;

        int addForbidden(int from, int size) {
            Arc arc = new Arc();
            arc.lay(from, size);
            addArc(arc);
            forbidden++;
            return forbidden;
        }

        void addArc(Arc arc) {
            if (arcCount < MOST_ARCS) {
                arcs[arcCount] = arc;
                arcCount++;
            }
        }

        int closedArcsAround() {
            int count = 0;
            for (int i = 0; i < arcCount; i++) {
                if (arcs[i].closed && arcs[i].has(angle)) {
                    count++;
                }
            }
            return count;
        }

        /** In the arc it wants the right in any case, so one that wants it not is outside. */
        boolean wants(Arc shared) {
            if (shared.has(angle)) {
                return true;
            }
            return slewOrder != 0 && shared.ahead(angle, slewOrder) < WANTED_WITHIN;
        }

        void slew() {
            speed = nextSpeed();
            angle = Math.floorMod(angle + speed, CIRCLE);
        }

        private int nextSpeed() {
            int slowest = Math.max(speed - 1, -MOST_SPEED);
            int fastest = Math.min(speed + 1, MOST_SPEED);
            int best = speed - Integer.signum(speed);
            boolean found = false;
            for (int v = slowest; v <= fastest; v++) {
                if (isSafe(v) && (!found || isBetter(v, best))) {
                    best = v;
                    found = true;
                }
            }
            return best;
        }

        private boolean isBetter(int v, int than) {
            int off = Math.abs(v - slewOrder);
            int offThan = Math.abs(than - slewOrder);
            return off < offThan || (off == offThan && Math.abs(v) < Math.abs(than));
        }

        private boolean isSafe(int v) {
            if (v == 0) {
                return true;
            }
            int most = Math.abs(v);
            int way = most * (most + 1) / 2;
            for (int i = 0; i < arcCount; i++) {
                // A crane that stands in a closed arc must be able to leave it.
                if (arcs[i].closed && !arcs[i].has(angle) && arcs[i].ahead(angle, v) <= way) {
                    return false;
                }
            }
            return true;
        }

        boolean isOverloaded() {
            return load > table.at(trolley);
        }

        void moveTrolley() {
            int place = Math.max(0, Math.min(MOST_TROLLEY, trolley + trolleyOrder));
            if (place > trolley && load > table.at(place)) {
                return;
            }
            trolley = place;
        }

        void moveHook() {
            int height = Math.max(0, Math.min(MOST_HOOK, hook + hookOrder));
            if (height > hook && isOverloaded()) {
                return;
            }
            hook = height;
        }
    }

    /** What the keeper of a pair knows of its right. */
    private static final class Keeper {
        static final int NOBODY = 0;
        static final int ITSELF = 1;
        static final int THE_ASKER = 2;
        static final int MOST_SILENCE = 40;

        final int pair;
        final Arc arc = new Arc();
        int owner = NOBODY;
        int heardAt;
        int grantedSerial;
        int greatestFreed;

        Keeper(int pair) {
            this.pair = pair;
        }

        void takeTurn(Crane crane, int time) {
            if (!arc.exists()) {
                return;
            }
            boolean wants = crane.wants(arc);
            if (owner == ITSELF && !wants && crane.speed == 0) {
                giveTo(NOBODY);
            } else if (owner == NOBODY && wants && time - heardAt <= MOST_SILENCE) {
                giveTo(ITSELF);
            }
        }

        void hear(Message message, int time, Bus wire) {
            heardAt = time;
            if (message.kind == Message.ASK) {
                answerAsk(message.serial, wire);
            } else if (message.kind == Message.FREE) {
                answerFree(message.serial, wire);
            }
        }

        private void answerAsk(int serial, Bus wire) {
            // Behind its own FREE an ASK is only late: to grant it would give a right that nobody frees.
            if (owner == ITSELF || serial <= greatestFreed) {
                return;
            }
            giveTo(THE_ASKER);
            grantedSerial = serial;
            wire.send(pair, Message.GRANT, serial);
        }

        private void answerFree(int serial, Bus wire) {
            greatestFreed = Math.max(greatestFreed, serial);
            if (owner == THE_ASKER && grantedSerial <= serial) {
                giveTo(NOBODY);
            }
            wire.send(pair, Message.DONE, serial);
        }

        private void giveTo(int who) {
            owner = who;
            arc.closed = who != ITSELF;
        }
    }

    /** What the asker of a pair does about its right. */
    private static final class Asker {
        static final int NOTHING = 0;
        static final int ASKS = 1;
        static final int HAS = 2;
        static final int WAITS = 3;
        static final int BEAT_EVERY = 10;
        static final int REPEAT_AFTER = 20;

        final int pair;
        final Arc arc = new Arc();
        int doing = NOTHING;
        int serial;
        int latestAt;

        Asker(int pair) {
            this.pair = pair;
        }

        void takeTurn(Crane crane, int time, Bus wire) {
            if (!arc.exists()) {
                return;
            }
            if (time % BEAT_EVERY == 0) {
                wire.send(pair, Message.BEAT, serial);
            }
            boolean wants = crane.wants(arc);
            if (doing == NOTHING && wants) {
                serial++;
                begin(ASKS, time, wire);
            } else if (!wants && (doing == ASKS || (doing == HAS && crane.speed == 0))) {
                begin(WAITS, time, wire);
            } else if ((doing == ASKS || doing == WAITS) && time - latestAt >= REPEAT_AFTER) {
                sendOwn(time, wire);
            }
        }

        void hear(Message message) {
            if (message.serial != serial) {
                return;
            }
            if (message.kind == Message.GRANT && doing == ASKS) {
                turnTo(HAS);
            } else if (message.kind == Message.DONE && doing == WAITS) {
                turnTo(NOTHING);
            }
        }

        private void begin(int what, int time, Bus wire) {
            turnTo(what);
            sendOwn(time, wire);
        }

        private void sendOwn(int time, Bus wire) {
            wire.send(pair, doing == ASKS ? Message.ASK : Message.FREE, serial);
            latestAt = time;
        }

        private void turnTo(int what) {
            doing = what;
            arc.closed = what != HAS;
        }
    }

    private static final class Message {
        static final int ASK = 0;
        static final int FREE = 1;
        static final int BEAT = 2;
        static final int GRANT = 3;
        static final int DONE = 4;

        int pair;
        int kind;
        int serial;
        int dueAt;

        boolean isForAsker() {
            return kind == GRANT || kind == DONE;
        }

        void write(int pair, int kind, int serial) {
            this.pair = pair;
            this.kind = kind;
            this.serial = serial;
        }
    }

    /** The messages, all made once and used again, in the order in which they were sent. */
    private static final class Bus {
        static final int MOST_UNDER_WAY = 12;
        static final int MOST_DELAY = 30;
        static final int MOST_FATES = 100;
        /** An answer to each that can come in a tick, and of each of three askers a BEAT and one more. */
        static final int MOST_IN_OUTBOX = MOST_UNDER_WAY + 6;
        static final int LOST = 0;
        static final int NO_FATE = 1;

        final Message[] underWay = new Message[MOST_UNDER_WAY];
        final Message[] outbox = new Message[MOST_IN_OUTBOX];
        final int[] fates = new int[MOST_FATES];
        int underWayCount;
        int outboxCount;
        int firstFate;
        int fatesWaiting;
        int sent;
        int lost;
        int came;

        Bus() {
            for (int i = 0; i < MOST_UNDER_WAY; i++) {
                underWay[i] = new Message();
            }
            for (int i = 0; i < MOST_IN_OUTBOX; i++) {
                outbox[i] = new Message();
            }
        }

        void addFate(int f) {
            fates[(firstFate + fatesWaiting) % MOST_FATES] = f;
            fatesWaiting++;
        }

        private int takeFate() {
            if (fatesWaiting == 0) {
                return NO_FATE;
            }
            int f = fates[firstFate];
            firstFate = (firstFate + 1) % MOST_FATES;
            fatesWaiting--;
            return f;
        }

        void send(int pair, int kind, int serial) {
            if (outboxCount < MOST_IN_OUTBOX) {
                outbox[outboxCount].write(pair, kind, serial);
                outboxCount++;
            }
        }

        void takeOutbox(int time) {
            for (int i = 0; i < outboxCount; i++) {
                takeOne(outbox[i], time);
            }
            outboxCount = 0;
        }

        private void takeOne(Message message, int time) {
            sent++;
            int f = takeFate();
            if (f == LOST || underWayCount >= MOST_UNDER_WAY) {
                lost++;
                return;
            }
            Message carried = underWay[underWayCount];
            carried.write(message.pair, message.kind, message.serial);
            carried.dueAt = time + f;
            underWayCount++;
        }

        /** The message is good until the outbox is taken; null when none is due any more. */
        Message takeNextDue(int time) {
            for (int i = 0; i < underWayCount; i++) {
                if (underWay[i].dueAt == time) {
                    came++;
                    return takeOut(i);
                }
            }
            return null;
        }

        private Message takeOut(int index) {
            Message taken = underWay[index];
            underWayCount--;
            for (int i = index; i < underWayCount; i++) {
                underWay[i] = underWay[i + 1];
            }
            // Its place behind the others is where the next one is written.
            underWay[underWayCount] = taken;
            return taken;
        }
    }
}
