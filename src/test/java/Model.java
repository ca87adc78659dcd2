import java.util.ArrayList;
import java.util.Comparator;
import java.util.List;

/**
 * The document once more, written apart from the class and with the whole Java library: lists, records, copies made
 * anew. The random runs compare the class with it.
 */
final class Model {
    private static final int NONE = -1;

    private enum Kind { QUIET, UP, CLAIMING, BEACONING, REPEATING }

    private enum Thing { CLAIM, BEACON, TOKEN }

    private record Claim(int bid, int station, int number) {
        boolean betterThan(Claim other) {
            return bid != other.bid ? bid < other.bid : station < other.station;
        }
    }

    /** A beacon carries a claim of bid 0 and number 0. */
    private record Message(Thing thing, int link, int due, Claim claim) { }

    private record Frame(int to, int priority, int length, int came) { }

    /** What is being sent: a frame, or (frame null) a part of the rest; voided: it counts for nothing in the end. */
    private static final class Sending {
        Frame frame;
        int length;
        int yet;
        boolean voided;

        Sending copy() {
            Sending s = new Sending();
            s.frame = frame;
            s.length = length;
            s.yet = yet;
            s.voided = voided;
            return s;
        }
    }

    private static final class Holding {
        int left;
        int share;
        int came;
        int restTicks;
        int frameTicks;
        Sending sending;

        Holding copy() {
            Holding h = new Holding();
            h.left = left;
            h.share = share;
            h.came = came;
            h.restTicks = restTicks;
            h.frameTicks = frameTicks;
            h.sending = sending == null ? null : sending.copy();
            return h;
        }
    }

    private static final class Station {
        Kind kind = Kind.QUIET;
        int bid = 60;
        int share;
        int period;
        int length;
        int rest;
        boolean out;
        List<Frame> line = new ArrayList<>();
        int begun;
        Claim own;
        Claim best;
        Claim by;
        int claimingSince;
        int bestSent;
        int beaconSent;
        int heard;
        int heardOf;
        int due;
        int late;
        int rounds;
        Holding holding;
        Integer lastLetGo;
        Integer lastCame;
        List<Integer> trips = new ArrayList<>();
        List<Integer> waits = new ArrayList<>();
        int missed;
        int whole;
        int lost;

        Station copy() {
            Station s = new Station();
            s.kind = kind;
            s.bid = bid;
            s.share = share;
            s.period = period;
            s.length = length;
            s.rest = rest;
            s.out = out;
            s.line = new ArrayList<>(line);
            s.begun = begun;
            s.own = own;
            s.best = best;
            s.by = by;
            s.claimingSince = claimingSince;
            s.bestSent = bestSent;
            s.beaconSent = beaconSent;
            s.heard = heard;
            s.heardOf = heardOf;
            s.due = due;
            s.late = late;
            s.rounds = rounds;
            s.holding = holding == null ? null : holding.copy();
            s.lastLetGo = lastLetGo;
            s.lastCame = lastCame;
            s.trips = new ArrayList<>(trips);
            s.waits = new ArrayList<>(waits);
            s.missed = missed;
            s.whole = whole;
            s.lost = lost;
            return s;
        }
    }

    private static final class World {
        int[] told = {10, 200, 20, 0, 0, 0};
        int[] delays;
        boolean[] cut;
        Station[] stations;
        List<Message> way = new ArrayList<>();
        int tick;
        int state;
        List<int[]> log = new ArrayList<>();
        List<int[]> book = new ArrayList<>();
        int[] counts = new int[8];
        List<Claim> won = new ArrayList<>();
        Frame asked;
        Integer askedAnswer;

        World(int n) {
            delays = new int[n];
            cut = new boolean[n];
            stations = new Station[n];
            for (int i = 0; i < n; i++) {
                delays[i] = 2;
                stations[i] = new Station();
            }
        }

        World copy() {
            World w = new World(stations.length);
            w.told = told.clone();
            w.delays = delays.clone();
            w.cut = cut.clone();
            for (int i = 0; i < stations.length; i++) {
                w.stations[i] = stations[i].copy();
            }
            w.way = new ArrayList<>(way);
            w.tick = tick;
            w.state = state;
            w.log = new ArrayList<>(log);
            w.book = new ArrayList<>(book);
            w.counts = counts.clone();
            w.won = new ArrayList<>(won);
            return w;
        }

        int n() {
            return stations.length;
        }

        int latency() {
            int sum = 0;
            for (int d : delays) {
                sum += d;
            }
            return sum;
        }

        int floor() {
            int least = Integer.MAX_VALUE;
            for (Station s : stations) {
                if (!s.out) {
                    least = Math.min(least, s.bid);
                    if (s.kind == Kind.UP) {
                        least = Math.min(least, s.by.bid());
                    }
                }
            }
            return least;
        }

        int shares() {
            int sum = 0;
            for (Station s : stations) {
                sum += s.out ? 0 : s.share;
            }
            return sum;
        }

        boolean allowed() {
            return shares() + latency() + told[0] <= floor();
        }

        void log(int what, int station, int number) {
            log.add(0, new int[] {tick, what, station, number});
        }

        void send(int from, Thing thing, Claim claim) {
            counts[0]++;
            if (cut[from] || way.size() >= 100) {
                counts[1]++;
                return;
            }
            int due = tick + delays[from];
            for (Message m : way) {
                if (m.link() == from) {
                    due = Math.max(due, m.due());
                }
            }
            way.add(new Message(thing, from, due, claim));
        }

        void toClaim(int i, Claim come) {
            Station s = stations[i];
            s.kind = Kind.CLAIMING;
            s.claimingSince = tick;
            s.holding = null;
            s.begun++;
            counts[5]++;
            s.own = new Claim(s.bid, i, s.begun);
            s.best = come != null && come.betterThan(s.own) ? come : s.own;
            log(0, i, s.bid);
            sendBest(i);
        }

        void sendBest(int i) {
            stations[i].bestSent = tick;
            send(i, Thing.CLAIM, stations[i].best);
        }

        void toBeacon(int i) {
            stations[i].kind = Kind.BEACONING;
            log(2, i, 0);
            ownBeacon(i);
        }

        void ownBeacon(int i) {
            stations[i].beaconSent = tick;
            counts[6]++;
            send(i, Thing.BEACON, new Claim(0, i, 0));
        }

        void up(int i, Claim claim) {
            Station s = stations[i];
            s.kind = Kind.UP;
            s.by = claim;
            s.due = tick + claim.bid();
            s.late = 0;
            s.rounds = 1;
            s.trips.clear();
            s.lastCame = null;
        }

        void claimComes(int i, Claim c) {
            Station s = stations[i];
            if (c.station() == i && c.number() != s.begun) {
                return;
            }
            switch (s.kind) {
                case CLAIMING -> {
                    if (c.equals(s.best) && c.equals(s.own)) {
                        up(i, c);
                        won.add(c);
                        counts[4]++;
                        log(1, i, c.bid());
                        letGo(i);
                    } else if (c.equals(s.best)) {
                        sendBest(i);
                    } else if (c.betterThan(s.best)
                        || c.station() == s.best.station() && c.number() > s.best.number()) {
                        s.best = c;
                        sendBest(i);
                    }
                }
                case UP -> {
                    if (!(c.station() == s.by.station() && c.number() <= s.by.number())) {
                        toClaim(i, c);
                    }
                }
                case QUIET, REPEATING -> toClaim(i, c);
                default -> { }
            }
        }

        void tokenComes(int i, Claim c) {
            Station s = stations[i];
            if (s.kind == Kind.CLAIMING && c.equals(s.best)) {
                up(i, c);
                log(7, i, c.station());
                letGo(i);
                return;
            }
            if (s.kind == Kind.UP && c.equals(s.by)) {
                if (s.holding != null || s.lastLetGo != null && tick - s.lastLetGo < latency()) {
                    counts[2]++;
                    log(4, i, 0);
                    return;
                }
                s.rounds++;
                Holding h = new Holding();
                if (s.late == 0) {
                    h.left = s.due - tick;
                    s.due = tick + s.by.bid();
                } else {
                    s.late = 0;
                }
                h.share = s.share;
                h.came = tick;
                if (s.lastCame != null) {
                    s.trips.add(tick - s.lastCame);
                }
                s.lastCame = tick;
                s.holding = h;
                return;
            }
            counts[3]++;
            log(5, i, 0);
        }

        void beaconComes(int i, Claim c) {
            Station s = stations[i];
            if (c.station() == i) {
                if (s.kind == Kind.BEACONING) {
                    toClaim(i, null);
                }
                return;
            }
            if (s.kind != Kind.REPEATING) {
                log(3, i, c.station());
            }
            s.kind = Kind.REPEATING;
            s.holding = null;
            s.heard = tick;
            s.heardOf = c.station();
            send(i, Thing.BEACON, c);
        }

        void toHold(int i) {
            Station s = stations[i];
            Holding h = s.holding;
            Sending next = new Sending();
            if (s.rest > 0 && h.share > 0) {
                next.length = Math.min(s.rest, h.share);
                h.share -= next.length;
            } else if (h.left > 0 && s.rounds >= 3) {
                for (int p = 3; p >= 1 && next.frame == null; p--) {
                    if (told[2 + p] < h.left) {
                        for (Frame f : s.line) {
                            if (f.priority() == p && next.frame == null) {
                                next.frame = f;
                                next.length = f.length();
                            }
                        }
                    }
                }
            }
            if (next.length > 0) {
                next.yet = next.length;
                h.sending = next;
                return;
            }
            book.add(0, new int[] {i, h.came, tick - h.came, h.restTicks, h.frameTicks});
            s.holding = null;
            letGo(i);
        }

        /** A token that came, or that one WON, is sent on; "doubled" sends one more, which is no letting go. */
        void letGo(int i) {
            stations[i].lastLetGo = tick;
            send(i, Thing.TOKEN, stations[i].by);
        }

        void frameEnds(int i, Frame f) {
            Station s = stations[i];
            s.line.removeIf(g -> g == f);
            boolean through = !stations[f.to()].out;
            int wait = tick - f.came();
            for (int k = i; k != f.to(); k = (k + 1) % n()) {
                through &= !cut[k];
                wait += delays[k];
            }
            if (through) {
                s.waits.add(wait);
            } else {
                s.lost++;
            }
            if (f == asked) {
                askedAnswer = through ? wait : NONE;
            }
        }

        void hold(int i) {
            Station s = stations[i];
            Holding h = s.holding;
            Sending now = h.sending;
            if (now != null) {
                counts[7]++;
                now.yet--;
                if (now.frame != null) {
                    h.frameTicks++;
                    h.left = Math.max(h.left - 1, 0);
                } else {
                    h.restTicks++;
                }
                if (now.yet > 0) {
                    return;
                }
                h.sending = null;
                if (now.frame != null) {
                    frameEnds(i, now.frame);
                } else if (!now.voided) {
                    s.rest -= now.length;
                    if (s.rest == 0) {
                        s.whole++;
                    }
                }
            }
            toHold(i);
        }

        void voidRest(Station s) {
            if (s.holding != null && s.holding.sending != null && s.holding.sending.frame == null) {
                s.holding.sending.voided = true;
            }
        }

        void oneTick() {
            tick++;
            List<Message> due = new ArrayList<>();
            for (Message m : way) {
                if (m.due() == tick) {
                    due.add(m);
                }
            }
            for (Message m : due) {
                way.remove(indexOf(m));
                int i = (m.link() + 1) % n();
                if (stations[i].out) {
                    send(i, m.thing(), m.claim());
                } else {
                    switch (m.thing()) {
                        case CLAIM -> claimComes(i, m.claim());
                        case BEACON -> beaconComes(i, m.claim());
                        default -> tokenComes(i, m.claim());
                    }
                }
            }
            for (int i = 0; i < n(); i++) {
                Station s = stations[i];
                if (!s.out && s.period > 0 && tick % s.period == 0) {
                    if (s.rest > 0) {
                        s.missed++;
                        log(6, i, s.rest);
                        voidRest(s);
                    }
                    s.rest = s.length;
                }
            }
            for (int i = 0; i < n(); i++) {
                if (!stations[i].out) {
                    turn(i);
                }
            }
        }

        int indexOf(Message m) {
            for (int i = 0; i < way.size(); i++) {
                if (way.get(i) == m) {
                    return i;
                }
            }
            throw new IllegalStateException("no such message");
        }

        void turn(int i) {
            Station s = stations[i];
            if (s.holding != null) {
                hold(i);
            }
            switch (s.kind) {
                case UP -> {
                    if (s.due == tick) {
                        s.due += s.by.bid();
                        s.late++;
                        if (s.late == 2) {
                            toClaim(i, null);
                        }
                    }
                }
                case CLAIMING -> {
                    if (tick - s.claimingSince >= told[1]) {
                        toBeacon(i);
                    } else if (s.best.equals(s.own) && tick - s.bestSent >= told[2]) {
                        sendBest(i);
                    }
                }
                case BEACONING -> {
                    if (tick - s.beaconSent >= told[2]) {
                        ownBeacon(i);
                    }
                }
                case REPEATING -> {
                    if (tick - s.heard >= told[1]) {
                        toBeacon(i);
                    }
                }
                default -> { }
            }
        }

        int tokens() {
            int many = 0;
            for (Message m : way) {
                many += m.thing() == Thing.TOKEN ? 1 : 0;
            }
            for (Station s : stations) {
                many += s.holding != null ? 1 : 0;
            }
            return many;
        }

        int lose() {
            int many = tokens();
            way.removeIf(m -> m.thing() == Thing.TOKEN);
            for (Station s : stations) {
                s.holding = null;
            }
            return many;
        }

        int draw(int m) {
            state = state * 1664525 + 1013904223;
            return (state >>> 8) % m;
        }

        int longestTrip() {
            int longest = 0;
            for (Station s : stations) {
                for (int t : s.trips) {
                    longest = Math.max(longest, t);
                }
            }
            return longest;
        }

        int kindSet(Kind kind) {
            int set = 0;
            for (int i = 0; i < n(); i++) {
                set |= stations[i].kind == kind ? 1 << i : 0;
            }
            return set;
        }
    }

    private World w = new World(3);
    private World image;

    private boolean no(int i) {
        return i < 0 || i >= w.n();
    }

    private boolean outside(int v, int least, int most) {
        return v < least || v > most;
    }

    boolean begin(int n) {
        if (outside(n, 2, 8)) {
            return false;
        }
        w = new World(n);
        return true;
    }

    /** What was told stays told only if the shares still fit; else the world is as it was. */
    private boolean keep(World before) {
        if (w.allowed()) {
            return true;
        }
        w = before;
        return false;
    }

    boolean set(int what, int v) {
        int[] least = {1, 50, 5, 0, 0, 0};
        int[] most = {50, 999, 50, 500, 500, 500};
        if (outside(what, 0, 5) || outside(v, least[what], most[what])) {
            return false;
        }
        World before = w.copy();
        w.told[what] = v;
        return what > 0 || keep(before);
    }

    boolean delay(int link, int v) {
        if (no(link) || outside(v, 1, 20)) {
            return false;
        }
        World before = w.copy();
        w.delays[link] = v;
        return keep(before);
    }

    boolean cut(int link, boolean is) {
        if (no(link) || w.cut[link] == is) {
            return false;
        }
        w.cut[link] = is;
        if (is) {
            int before = w.way.size();
            w.way.removeIf(m -> m.link() == link);
            w.counts[1] += before - w.way.size();
        }
        return true;
    }

    boolean bid(int station, int v) {
        if (no(station) || outside(v, 10, 500)) {
            return false;
        }
        World before = w.copy();
        w.stations[station].bid = v;
        return keep(before);
    }

    boolean share(int station, int v) {
        if (no(station) || outside(v, 0, 200)) {
            return false;
        }
        World before = w.copy();
        w.stations[station].share = v;
        return keep(before);
    }

    boolean stream(int station, int period, int length) {
        if (no(station)) {
            return false;
        }
        Station s = w.stations[station];
        if (period == 0) {
            s.period = 0;
            s.length = 0;
        } else if (outside(period, 20, 999) || outside(length, 1, 99)) {
            return false;
        } else {
            s.period = period;
            s.length = length;
        }
        s.rest = 0;
        w.voidRest(s);
        return true;
    }

    private boolean noFrame(int station, int to, int priority, int length) {
        return no(station) || no(to) || station == to || outside(priority, 1, 3) || outside(length, 1, w.told[0])
            || w.stations[station].line.size() == 8;
    }

    int frame(int station, int to, int priority, int length) {
        if (noFrame(station, to, priority, length)) {
            return NONE;
        }
        w.stations[station].line.add(new Frame(to, priority, length, w.tick));
        return w.stations[station].line.size();
    }

    boolean out(int station, boolean is) {
        if (no(station) || w.stations[station].out == is) {
            return false;
        }
        int in = 0;
        for (Station s : w.stations) {
            in += s.out ? 0 : 1;
        }
        if (is && in == 2) {
            return false;
        }
        World before = w.copy();
        w.stations[station].out = is;
        w.stations[station].kind = Kind.QUIET;
        w.stations[station].holding = null;
        return is || keep(before);
    }

    int state(int v) {
        int was = w.state;
        w.state = v;
        return was;
    }

    int storm(int k) {
        if (outside(k, 1, 30)) {
            return NONE;
        }
        int came = 0;
        for (int i = 0; i < k; i++) {
            int whose = w.draw(w.n());
            int to = w.draw(w.n() - 1);
            if (to >= whose) {
                to++;
            }
            int priority = 1 + w.draw(3);
            int length = 1 + w.draw(w.told[0]);
            if (w.stations[whose].line.size() < 8) {
                w.stations[whose].line.add(new Frame(to, priority, length, w.tick));
                came++;
            }
        }
        return came;
    }

    boolean claim(int station) {
        if (no(station) || w.stations[station].out) {
            return false;
        }
        Kind kind = w.stations[station].kind;
        if (kind == Kind.CLAIMING || kind == Kind.BEACONING) {
            return false;
        }
        w.toClaim(station, null);
        return true;
    }

    int lose() {
        return w.lose();
    }

    boolean doubled(int station) {
        if (no(station) || w.stations[station].kind != Kind.UP) {
            return false;
        }
        w.send(station, Thing.TOKEN, w.stations[station].by);
        return true;
    }

    int tick(int n) {
        if (outside(n, 1, 300) || w.tick + n > 30000) {
            return NONE;
        }
        for (int i = 0; i < n; i++) {
            w.oneTick();
        }
        return w.tick;
    }

    private static int sum(List<Integer> list) {
        return list.stream().mapToInt(Integer::intValue).sum();
    }

    private static int longest(List<Integer> list) {
        return list.stream().mapToInt(Integer::intValue).max().orElse(0);
    }

    int station(int station, int what) {
        if (no(station)) {
            return NONE;
        }
        Station s = w.stations[station];
        boolean up = s.kind == Kind.UP;
        Holding h = s.holding;
        return switch (what) {
            case 0 -> s.kind.ordinal();
            case 1 -> s.bid;
            case 2 -> s.share;
            case 3 -> up ? s.by.bid() : NONE;
            case 4 -> up ? s.due - w.tick : NONE;
            case 5 -> up ? s.late : 0;
            case 6 -> up ? s.rounds : 0;
            case 7 -> h == null ? 0 : 1;
            case 8 -> h == null ? 0 : h.left;
            case 9 -> h == null ? 0 : h.share;
            case 10 -> h == null || h.sending == null ? 0 : h.sending.yet;
            case 11 -> s.rest;
            case 12 -> s.line.size();
            case 13 -> s.period;
            case 14 -> s.length;
            case 15 -> s.missed;
            case 16 -> s.whole;
            case 17 -> s.waits.size();
            case 18 -> s.lost;
            case 19 -> sum(s.waits);
            case 20 -> longest(s.waits);
            case 21 -> s.trips.size();
            case 22 -> sum(s.trips);
            case 23 -> longest(s.trips);
            case 24 -> switch (s.kind) {
                case UP -> s.by.station();
                case CLAIMING -> s.best.station();
                case REPEATING -> s.heardOf;
                default -> NONE;
            };
            case 25 -> s.begun;
            case 26 -> s.out ? 1 : 0;
            default -> NONE;
        };
    }

    int queued(int station, int i, int what) {
        if (no(station) || outside(i, 0, w.stations[station].line.size() - 1)) {
            return NONE;
        }
        Frame f = w.stations[station].line.get(i);
        return switch (what) {
            case 0 -> f.to();
            case 1 -> f.priority();
            case 2 -> f.length();
            case 3 -> f.came();
            default -> NONE;
        };
    }

    int link(int link, int what) {
        if (no(link)) {
            return NONE;
        }
        return switch (what) {
            case 0 -> w.delays[link];
            case 1 -> w.cut[link] ? 1 : 0;
            case 2 -> (int) w.way.stream().filter(m -> m.link() == link).count();
            default -> NONE;
        };
    }

    int message(int i, int what) {
        if (outside(i, 0, w.way.size() - 1)) {
            return NONE;
        }
        List<Message> order = new ArrayList<>(w.way);
        order.sort(Comparator.comparingInt(Message::due));
        Message m = order.get(i);
        return switch (what) {
            case 0 -> m.thing().ordinal();
            case 1 -> m.link();
            case 2 -> m.due();
            case 3 -> m.claim().station();
            case 4 -> m.claim().bid();
            default -> NONE;
        };
    }

    int suspects() {
        int set = 0;
        for (int link = 0; link < w.n(); link++) {
            int to = (link + 1) % w.n();
            while (w.stations[to].out) {
                to = (to + 1) % w.n();
            }
            set |= w.stations[to].kind == Kind.BEACONING ? 1 << link : 0;
        }
        return set;
    }

    private static boolean sureWith(Station s, int share, int floor) {
        return (s.period / floor - 1) * share >= s.length;
    }

    int sure(int station) {
        if (no(station) || w.stations[station].period == 0) {
            return NONE;
        }
        return sureWith(w.stations[station], w.stations[station].share, w.floor()) ? 1 : 0;
    }

    private int spare(int floor) {
        return Math.max(floor - w.latency() - w.told[0], 0);
    }

    private static long loadOf(Station s) {
        return s.out || s.period == 0 ? 0 : 1000000L * s.length / s.period;
    }

    private long loads() {
        long sum = 0;
        for (Station s : w.stations) {
            sum += loadOf(s);
        }
        return sum;
    }

    private int deal(int scheme, Station s, int floor) {
        if (s.out) {
            return 0;
        }
        if (scheme == 0) {
            int in = 0;
            for (Station t : w.stations) {
                in += t.out ? 0 : 1;
            }
            return spare(floor) / in;
        }
        if (scheme == 1) {
            return loads() == 0 ? 0 : (int) (spare(floor) * loadOf(s) / loads());
        }
        if (s.period == 0) {
            return 0;
        }
        if (s.period / floor < 2) {
            return NONE;
        }
        int share = 0;
        while (!sureWith(s, share, floor)) {
            share++;
        }
        return share;
    }

    int dealt(int scheme, int station) {
        return outside(scheme, 0, 2) || no(station) ? NONE : deal(scheme, w.stations[station], w.floor());
    }

    private boolean fit(int scheme, int floor) {
        if (w.latency() + w.told[0] > floor) {
            return false;
        }
        int sum = 0;
        for (Station s : w.stations) {
            if (!s.out) {
                int share = deal(scheme, s, floor);
                if (share == NONE || s.period > 0 && !sureWith(s, share, floor)) {
                    return false;
                }
                sum += share;
            }
        }
        return sum <= spare(floor);
    }

    int fits(int scheme) {
        return outside(scheme, 0, 2) ? NONE : fit(scheme, w.floor()) ? 1 : 0;
    }

    int least() {
        for (int floor = 10; floor <= 500; floor++) {
            if (fit(2, floor)) {
                return floor;
            }
        }
        return NONE;
    }

    long load(long times) {
        if (times < 0) {
            return NONE;
        }
        try {
            return Math.multiplyExact(loads(), times);
        } catch (ArithmeticException beyond) {
            return NONE;
        }
    }

    long mean(int station) {
        if (no(station) || w.stations[station].trips.isEmpty()) {
            return NONE;
        }
        List<Integer> trips = w.stations[station].trips;
        return 1000L * sum(trips) / trips.size();
    }

    int found(int what) {
        if (outside(what, 0, 1) || w.tokens() == 0) {
            return NONE;
        }
        World t = w.copy();
        t.lose();
        t.won.clear();
        for (int ticks = 1; ticks <= 3000; ticks++) {
            t.oneTick();
            for (Claim c : t.won) {
                boolean all = true;
                for (Station s : t.stations) {
                    all &= s.out || s.kind == Kind.UP && s.by.equals(c);
                }
                if (all) {
                    return what == 0 ? ticks : c.station();
                }
            }
        }
        return NONE;
    }

    int would(int n, int what) {
        if (outside(n, 1, 300) || w.tick + n > 30000 || outside(what, 0, 5)) {
            return NONE;
        }
        World t = w.copy();
        for (int i = 0; i < n; i++) {
            t.oneTick();
        }
        int missed = 0;
        int delivered = 0;
        for (Station s : t.stations) {
            missed += s.missed;
            delivered += s.waits.size();
        }
        return switch (what) {
            case 0 -> Integer.bitCount(t.kindSet(Kind.UP));
            case 1 -> t.way.size();
            case 2 -> missed;
            case 3 -> delivered;
            case 4 -> t.longestTrip();
            default -> t.tokens();
        };
    }

    int asked(int station, int to, int priority, int length) {
        if (noFrame(station, to, priority, length)) {
            return NONE;
        }
        World t = w.copy();
        t.asked = new Frame(to, priority, length, t.tick);
        t.stations[station].line.add(t.asked);
        for (int i = 0; i < 2000; i++) {
            t.oneTick();
            if (t.askedAnswer != null) {
                return t.askedAnswer;
            }
        }
        return NONE;
    }

    private static int lineOf(List<int[]> lines, int limit, int i, int what) {
        if (outsideOf(i, Math.min(limit, lines.size())) || outsideOf(what, lines.get(i).length)) {
            return NONE;
        }
        return lines.get(i)[what];
    }

    private static boolean outsideOf(int i, int many) {
        return i < 0 || i >= many;
    }

    int book(int i, int what) {
        return lineOf(w.book, 40, i, what);
    }

    int log(int i, int what) {
        return lineOf(w.log, 60, i, what);
    }

    int count(int what) {
        return outside(what, 0, 7) ? NONE : w.counts[what];
    }

    boolean image(boolean taken) {
        if (taken) {
            image = w.copy();
            return true;
        }
        if (image == null) {
            return false;
        }
        w = image.copy();
        return true;
    }

    int look(int what) {
        return switch (what) {
            case 0, 1, 2, 3, 4, 5 -> w.told[what];
            case 6 -> w.n();
            case 7 -> w.tick;
            case 8 -> w.latency();
            case 9 -> w.floor();
            case 10 -> w.shares();
            case 11 -> spare(w.floor());
            case 12 -> w.way.size();
            case 13 -> w.tokens();
            case 14 -> w.kindSet(Kind.UP);
            case 15 -> w.kindSet(Kind.CLAIMING);
            case 16 -> w.kindSet(Kind.BEACONING);
            case 17 -> w.kindSet(Kind.REPEATING);
            case 18 -> w.log.size();
            case 19 -> w.state;
            case 20 -> {
                int set = 0;
                for (int i = 0; i < w.n(); i++) {
                    set |= w.stations[i].out ? 1 << i : 0;
                }
                yield set;
            }
            case 21 -> w.book.size();
            case 22 -> w.longestTrip();
            case 23 -> {
                int least = NONE;
                for (Station s : w.stations) {
                    if (s.kind == Kind.UP && (least == NONE || s.by.bid() < least)) {
                        least = s.by.bid();
                    }
                }
                yield least;
            }
            default -> -100000;
        };
    }
}
