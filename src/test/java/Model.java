import java.util.ArrayDeque;
import java.util.ArrayList;
import java.util.List;

/**
 * The document once more, in the plainest way: arcs are sets of angles, and every angle that would be
 * gone over is looked at. It exists to be compared with CraneSite, which reckons instead.
 */
final class Model {
    private static final String[] DOINGS = {"nothing", "asks", "has", "waits"};

    private static final class Arc {
        final boolean[] angles = new boolean[3600];

        Arc(int from, int size) {
            for (int i = 0; i < size; i++) {
                angles[(from + i) % 3600] = true;
            }
        }
    }

    private static final class Crane {
        final List<int[]> table = new ArrayList<>();
        final List<Arc> forbidden = new ArrayList<>();
        final int[] orders = new int[3];
        int angle;
        int speed;
        int trolley;
        int hook;
        int load;

        int tableAt(int radius) {
            if (table.isEmpty() || radius > table.get(table.size() - 1)[0]) {
                return 0;
            }
            int[] before = null;
            for (int[] point : table) {
                if (radius == point[0] || before == null && radius < point[0]) {
                    return point[1];
                }
                if (radius < point[0]) {
                    double part = (double) (radius - before[0]) / (point[0] - before[0]);
                    // The nudge is far below 1 / 6,000, the least step of the line.
                    return (int) Math.floor(before[1] + part * (point[1] - before[1]) + 1e-7);
                }
                before = point;
            }
            throw new AssertionError();
        }
    }

    private static final class Pair {
        final int keeper;
        final int asker;
        Arc onKeeper;
        Arc onAsker;
        int owner;
        int heard;
        int grantedBy;
        int freed;
        String doing = "nothing";
        int serial;
        int latest;

        Pair(int keeper, int asker) {
            this.keeper = keeper;
            this.asker = asker;
        }
    }

    private record Message(int pair, String kind, int serial, int due) { }

    private final Crane[] cranes = {new Crane(), new Crane(), new Crane()};
    private final Pair[] pairs = {new Pair(0, 1), new Pair(0, 2), new Pair(1, 2)};
    private final ArrayDeque<Integer> fates = new ArrayDeque<>();
    private final List<Message> underWay = new ArrayList<>();
    private final List<Message> outbox = new ArrayList<>();
    private int time;
    private int sent;
    private int lost;
    private int came;

    private static void argument(boolean holds) {
        if (!holds) {
            throw new IllegalArgumentException();
        }
    }

    private static void state(boolean holds) {
        if (!holds) {
            throw new IllegalStateException();
        }
    }

    private static boolean among(int value, int least, int most) {
        return least <= value && value <= most;
    }

    private static boolean arc(int from, int size) {
        return among(from, 0, 3599) && among(size, 1, 3599);
    }

    void setUp(int crane, int angle) {
        argument(among(crane, 0, 2) && among(angle, 0, 3599));
        state(time == 0);
        cranes[crane].angle = angle;
    }

    int point(int crane, int radius, int load) {
        argument(among(crane, 0, 2) && among(radius, 0, 6000) && among(load, 0, 1000));
        List<int[]> table = cranes[crane].table;
        argument(table.isEmpty() || table.get(table.size() - 1)[0] < radius);
        state(table.size() < 8);
        table.add(new int[] {radius, load});
        return table.size();
    }

    int forbid(int crane, int from, int size) {
        argument(among(crane, 0, 2) && arc(from, size));
        state(cranes[crane].forbidden.size() < 4 && time == 0);
        cranes[crane].forbidden.add(new Arc(from, size));
        return cranes[crane].forbidden.size();
    }

    void share(int pair, int keeperFrom, int keeperSize, int askerFrom, int askerSize) {
        argument(among(pair, 0, 2) && arc(keeperFrom, keeperSize) && arc(askerFrom, askerSize));
        state(pairs[pair].onKeeper == null && time == 0);
        pairs[pair].onKeeper = new Arc(keeperFrom, keeperSize);
        pairs[pair].onAsker = new Arc(askerFrom, askerSize);
    }

    void order(int crane, int what, int order) {
        argument(among(crane, 0, 2) && among(what, 0, 2));
        int most = new int[] {10, 5, 20}[what];
        argument(among(order, -most, most));
        cranes[crane].orders[what] = order;
    }

    void load(int crane, int load) {
        argument(among(crane, 0, 2) && among(load, 0, 1000));
        cranes[crane].load = load;
    }

    int fate(int f) {
        argument(among(f, 0, 30));
        state(fates.size() < 100);
        fates.add(f);
        return fates.size();
    }

    int tick(int n) {
        argument(among(n, 1, 1000));
        for (int i = 0; i < n; i++) {
            time++;
            messagesCome();
            for (int c = 0; c < 3; c++) {
                for (int p = 0; p < 3; p++) {
                    if (pairs[p].onKeeper != null && pairs[p].keeper == c) {
                        keeperTurn(pairs[p]);
                    }
                    if (pairs[p].onAsker != null && pairs[p].asker == c) {
                        askerTurn(p);
                    }
                }
                slew(c);
                trolleyAndHook(cranes[c]);
            }
            messagesGo();
        }
        return time;
    }

    private void messagesCome() {
        List<Message> now = new ArrayList<>();
        for (Message m : underWay) {
            if (m.due == time) {
                now.add(m);
            }
        }
        underWay.removeAll(now);
        for (Message m : now) {
            came++;
            comes(m, pairs[m.pair]);
        }
    }

    private void comes(Message m, Pair p) {
        if (m.kind.equals("GRANT")) {
            if (p.doing.equals("asks") && m.serial == p.serial) {
                p.doing = "has";
            }
            return;
        }
        if (m.kind.equals("DONE")) {
            if (p.doing.equals("waits") && m.serial == p.serial) {
                p.doing = "nothing";
            }
            return;
        }
        p.heard = time;
        if (m.kind.equals("ASK") && p.owner != 1 && m.serial > p.freed) {
            p.owner = 2;
            p.grantedBy = m.serial;
            send(m.pair, "GRANT", m.serial);
        }
        if (m.kind.equals("FREE")) {
            if (m.serial > p.freed) {
                p.freed = m.serial;
            }
            if (p.owner == 2 && p.grantedBy <= m.serial) {
                p.owner = 0;
            }
            send(m.pair, "DONE", m.serial);
        }
    }

    private void send(int pair, String kind, int serial) {
        outbox.add(new Message(pair, kind, serial, 0));
    }

    private void messagesGo() {
        for (Message m : outbox) {
            sent++;
            int f = fates.isEmpty() ? 1 : fates.remove();
            if (f == 0 || underWay.size() == 12) {
                lost++;
            } else {
                underWay.add(new Message(m.pair, m.kind, m.serial, time + f));
            }
        }
        outbox.clear();
    }

    private boolean wants(Crane crane, Arc arc) {
        if (arc.angles[crane.angle]) {
            return true;
        }
        int sense = Integer.compare(crane.orders[0], 0);
        for (int i = 1; i < 200 && sense != 0; i++) {
            if (arc.angles[(crane.angle + 3600 + sense * i) % 3600]) {
                return true;
            }
        }
        return false;
    }

    private boolean givesBack(Crane crane, Arc arc) {
        return crane.speed == 0 && !arc.angles[crane.angle] && !wants(crane, arc);
    }

    private void keeperTurn(Pair p) {
        Crane crane = cranes[p.keeper];
        if (p.owner == 0 && wants(crane, p.onKeeper) && time - p.heard <= 40) {
            p.owner = 1;
        } else if (p.owner == 1 && givesBack(crane, p.onKeeper)) {
            p.owner = 0;
        }
    }

    private void askerTurn(int number) {
        Pair p = pairs[number];
        Crane crane = cranes[p.asker];
        if (time % 10 == 0) {
            send(number, "BEAT", p.serial);
        }
        boolean wants = wants(crane, p.onAsker);
        String before = p.doing;
        if (before.equals("nothing") && wants) {
            p.serial++;
            p.doing = "asks";
        } else if (before.equals("asks") && !wants || before.equals("has") && givesBack(crane, p.onAsker)) {
            p.doing = "waits";
        }
        boolean sends = p.doing.equals("asks") || p.doing.equals("waits");
        if (sends && (!before.equals(p.doing) || time - p.latest >= 20)) {
            send(number, p.doing.equals("asks") ? "ASK" : "FREE", p.serial);
            p.latest = time;
        }
    }

    private List<Arc> closed(int crane) {
        List<Arc> closed = new ArrayList<>(cranes[crane].forbidden);
        for (Pair p : pairs) {
            if (p.onKeeper != null && p.keeper == crane && p.owner != 1) {
                closed.add(p.onKeeper);
            }
            if (p.onAsker != null && p.asker == crane && !p.doing.equals("has")) {
                closed.add(p.onAsker);
            }
        }
        return closed;
    }

    private boolean isSafe(int c, int v) {
        int sense = Integer.compare(v, 0);
        int at = cranes[c].angle;
        for (int left = v; left != 0; left -= sense) {
            for (int i = 0; i < Math.abs(left); i++) {
                at = (at + sense + 3600) % 3600;
                for (Arc arc : closed(c)) {
                    if (arc.angles[at] && !arc.angles[cranes[c].angle]) {
                        return false;
                    }
                }
            }
        }
        return true;
    }

    private void slew(int c) {
        Crane crane = cranes[c];
        int next = crane.speed + (crane.speed > 0 ? -1 : crane.speed < 0 ? 1 : 0);
        int nearest = Integer.MAX_VALUE;
        for (int v = -10; v <= 10; v++) {
            // One number for both: the nearness first, then how near to 0.
            int nearness = Math.abs(v - crane.orders[0]) * 100 + Math.abs(v);
            if (Math.abs(v - crane.speed) <= 1 && nearness < nearest && isSafe(c, v)) {
                nearest = nearness;
                next = v;
            }
        }
        crane.speed = next;
        crane.angle = (crane.angle + next + 3600) % 3600;
    }

    private static void trolleyAndHook(Crane crane) {
        int place = Math.min(6000, Math.max(0, crane.trolley + crane.orders[1]));
        if (crane.orders[1] <= 0 || crane.load <= crane.tableAt(place)) {
            crane.trolley = place;
        }
        boolean overloaded = crane.load > crane.tableAt(crane.trolley);
        if (crane.orders[2] <= 0 || !overloaded) {
            crane.hook = Math.min(8000, Math.max(0, crane.hook + crane.orders[2]));
        }
    }

    int look(int crane, int what) {
        argument(among(crane, 0, 2) && among(what, 0, 7));
        Crane c = cranes[crane];
        int in = 0;
        for (Arc arc : closed(crane)) {
            in += arc.angles[c.angle] ? 1 : 0;
        }
        int bears = c.tableAt(c.trolley);
        return new int[] {c.angle, c.speed, c.trolley, c.hook, c.load, bears, c.load > bears ? 1 : 0, in}[what];
    }

    int pair(int pair, int what) {
        argument(among(pair, 0, 2) && among(what, 0, 4));
        Pair p = pairs[pair];
        int keeperIn = p.onKeeper != null && p.onKeeper.angles[cranes[p.keeper].angle] ? 1 : 0;
        int askerIn = p.onAsker != null && p.onAsker.angles[cranes[p.asker].angle] ? 1 : 0;
        int doing = List.of(DOINGS).indexOf(p.doing);
        return new int[] {p.owner, doing, time - p.heard, keeperIn, askerIn}[what];
    }

    int bus(int what) {
        argument(among(what, 0, 3));
        return new int[] {underWay.size(), sent, lost, came}[what];
    }
}
