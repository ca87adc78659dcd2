/**
 * A ring of stations with one token and timers. What each call answers is promised in the project's document; the
 * words of its part "Terms" (DUE, LATE, LEFT, FLOOR ..) are used here in the same sense.
 */
public final class EarlyToken {
    public static final int NONE = -1;

    private static final int UNKNOWN = NONE - 99999;

    private static final int STATIONS = 8;
    private static final int FRAMES = 8;
    private static final int MESSAGES = 100;
    private static final int LOG_LINES = 60;
    private static final int BOOK_LINES = 40;
    private static final int LAST_TICK = 30000;
    private static final int TICKS_AT_ONCE = 300;
    private static final int TICKS_TO_FIND = 3000;
    private static final int TICKS_TO_SEND = 2000;

    private static final int QUIET = 0;
    private static final int UP = 1;
    private static final int CLAIMING = 2;
    private static final int BEACONING = 3;
    private static final int REPEATING = 4;

    // What can be told for the whole ring, by number, with its bounds.
    private static final int MOST = 0;
    private static final int PATIENCE = 1;
    private static final int REPEAT = 2;
    private static final int LIMITS = 3;
    private static final int TOLD = 6;
    private static final int[] TOLD_FIRST = {10, 200, 20, 0, 0, 0};
    private static final int[] TOLD_LEAST = {1, 50, 5, 0, 0, 0};
    private static final int[] TOLD_MOST = {50, 999, 50, 500, 500, 500};

    private static final int BID_LEAST = 10;
    private static final int BID_MOST = 500;
    private static final long LOAD_MOST = 9223372036854775807L;

    // Columns of a message on its way.
    private static final int KIND = 0;
    private static final int LINK = 1;
    private static final int DUE = 2;
    private static final int WHOSE = 3;
    private static final int BID = 4;
    private static final int NUMBER = 5;
    private static final int MESSAGE_COLUMNS = 6;

    private static final int CLAIM = 0;
    private static final int BEACON = 1;
    private static final int TOKEN = 2;

    // Columns of a frame in a line.
    private static final int TO = 0;
    private static final int PRIORITY = 1;
    private static final int LENGTH = 2;
    private static final int CAME = 3;
    private static final int ASKED = 4;
    private static final int FRAME_COLUMNS = 5;

    // What a station that holds the token is sending.
    private static final int NOTHING = 0;
    private static final int REST = 1;
    private static final int FRAME = 2;

    // What is counted of a station; the face tells these by the same order.
    private static final int MISSED = 0;
    private static final int WHOLE = 1;
    private static final int DELIVERED = 2;
    private static final int FRAMES_LOST = 3;
    private static final int WAITED = 4;
    private static final int LONGEST_WAIT = 5;
    private static final int TRIPS = 6;
    private static final int TRIP_TICKS = 7;
    private static final int LONGEST_TRIP = 8;
    private static final int TALLIES = 9;
    private static final int TALLIES_FROM = 15;

    // What is counted of the ring; the face tells these by the same numbers.
    private static final int SENT = 0;
    private static final int LOST = 1;
    private static final int DOUBLED = 2;
    private static final int STRAY = 3;
    private static final int WINS = 4;
    private static final int CLAIMS = 5;
    private static final int BEACONS = 6;
    private static final int BUSY = 7;
    private static final int COUNTS = 8;

    // What a line of the log tells.
    private static final int LOG_CLAIMS = 0;
    private static final int LOG_WON = 1;
    private static final int LOG_BEACONS = 2;
    private static final int LOG_REPEATS = 3;
    private static final int LOG_DOUBLED = 4;
    private static final int LOG_STRAY = 5;
    private static final int LOG_MISSED = 6;
    private static final int LOG_UP = 7;
    private static final int LOG_COLUMNS = 4;
    private static final int BOOK_COLUMNS = 5;

    // Of a frame that was asked about: it is not at its end.
    private static final int WAITING = -2;

    private final Ring ring = new Ring();
    private final Ring first = new Ring();
    private final Ring thought = new Ring();
    private final Ring kept = new Ring();
    private boolean isKept;

    public EarlyToken() {
        isKept = false;
    }

    public boolean begin(int n) {
        if (n < 2 || n > STATIONS) {
            return false;
        }
        ring.become(first);
        ring.n = n;
        return true;
    }

    public boolean set(int what, int v) {
        if (what < 0 || what >= TOLD || v < TOLD_LEAST[what] || v > TOLD_MOST[what]) {
            return false;
        }
        int before = ring.told[what];
        ring.told[what] = v;
        if (what != MOST || ring.isWithinFloor()) {
            return true;
        }
        ring.told[what] = before;
        return false;
    }

    public boolean delay(int link, int v) {
        if (!ring.has(link) || v < 1 || v > 20) {
            return false;
        }
        int before = ring.delays[link];
        ring.delays[link] = v;
        if (ring.isWithinFloor()) {
            return true;
        }
        ring.delays[link] = before;
        return false;
    }

    public boolean cut(int link, boolean is) {
        if (!ring.has(link) || ring.isCut(link) == is) {
            return false;
        }
        ring.cuts ^= 1 << link;
        if (is) {
            ring.counts[LOST] += ring.post.removeAll(LINK, link);
        }
        return true;
    }

    public boolean bid(int station, int v) {
        if (!ring.has(station) || v < BID_LEAST || v > BID_MOST) {
            return false;
        }
        Station s = ring.stations[station];
        int before = s.bid;
        s.bid = v;
        if (ring.isWithinFloor()) {
            return true;
        }
        s.bid = before;
        return false;
    }

    public boolean share(int station, int v) {
        if (!ring.has(station) || v < 0 || v > 200) {
            return false;
        }
        Station s = ring.stations[station];
        int before = s.share;
        s.share = v;
        if (ring.isWithinFloor()) {
            return true;
        }
        s.share = before;
        return false;
    }

    public boolean stream(int station, int period, int length) {
        if (!ring.has(station)) {
            return false;
        }
        if (period != 0 && (period < 20 || period > 999 || length < 1 || length > 99)) {
            return false;
        }
        Station s = ring.stations[station];
        s.stream.period = period;
        s.stream.length = period == 0 ? 0 : length;
        s.stream.rest = 0;
        s.hold.voidRest();
        return true;
    }

    public int frame(int station, int to, int priority, int length) {
        if (!ring.canFrame(station, to, priority, length)) {
            return NONE;
        }
        ring.queue(station, to, priority, length);
        return ring.stations[station].line.size;
    }

    public boolean out(int station, boolean is) {
        if (!ring.has(station) || ring.stations[station].isOut == is) {
            return false;
        }
        if (is && ring.countIn() <= 2) {
            return false;
        }
        Station s = ring.stations[station];
        s.isOut = is;
        if (!is && !ring.isWithinFloor()) {
            s.isOut = true;
            return false;
        }
        s.kind = QUIET;
        s.hold.drop();
        return true;
    }

    public int state(int v) {
        int before = ring.drawn;
        ring.drawn = v;
        return before;
    }

    public int storm(int k) {
        if (k < 1 || k > 30) {
            return NONE;
        }
        int came = 0;
        for (int i = 0; i < k; i++) {
            int whose = ring.draw(ring.n);
            int other = ring.draw(ring.n - 1);
            int to = other < whose ? other : other + 1;
            int priority = ring.draw(3) + 1;
            int length = ring.draw(ring.told[MOST]) + 1;
            if (ring.canFrame(whose, to, priority, length)) {
                ring.queue(whose, to, priority, length);
                came++;
            }
        }
        return came;
    }

    public boolean claim(int station) {
        if (!ring.has(station)) {
            return false;
        }
        Station s = ring.stations[station];
        if (s.isOut || s.kind == CLAIMING || s.kind == BEACONING) {
            return false;
        }
        ring.beginToClaim(s, null);
        return true;
    }

    public int lose() {
        return ring.loseTokens();
    }

    public boolean doubled(int station) {
        if (!ring.has(station) || ring.stations[station].kind != UP) {
            return false;
        }
        ring.send(station, TOKEN, ring.stations[station].goesBy);
        return true;
    }

    public int tick(int n) {
        if (!canTick(n)) {
            return NONE;
        }
        for (int i = 0; i < n; i++) {
            ring.advance();
        }
        return ring.now;
    }

    public int station(int station, int what) {
        return ring.has(station) ? ring.stations[station].view(what, ring.now) : NONE;
    }

    public int queued(int station, int i, int what) {
        if (!ring.has(station) || what > CAME) {
            return NONE;
        }
        return ring.stations[station].line.at(i, what);
    }

    public int link(int link, int what) {
        if (!ring.has(link)) {
            return NONE;
        }
        switch (what) {
            case 0:
                return ring.delays[link];
            case 1:
                return ring.isCut(link) ? 1 : 0;
            case 2:
                return ring.post.countOf(LINK, link);
            default:
                return NONE;
        }
    }

    public int message(int i, int what) {
        return what > BID ? NONE : ring.post.at(ring.post.ranked(DUE, i), what);
    }

    public int suspects() {
        int set = 0;
        for (int i = 0; i < ring.n; i++) {
            if (ring.stations[i].kind == BEACONING) {
                int link = ring.before(i);
                set |= 1 << link;
                for (int k = 0; k < ring.n && ring.stations[link].isOut; k++) {
                    link = ring.before(link);
                    set |= 1 << link;
                }
            }
        }
        return set;
    }

    public int sure(int station) {
        if (!ring.has(station) || ring.stations[station].stream.period == 0) {
            return NONE;
        }
        Station s = ring.stations[station];
        return s.stream.isSure(s.share, ring.floor()) ? 1 : 0;
    }

    public int dealt(int scheme, int station) {
        if (scheme < 0 || scheme > 2 || !ring.has(station)) {
            return NONE;
        }
        return ring.dealtTo(station, scheme, ring.floor());
    }

    public int fits(int scheme) {
        if (scheme < 0 || scheme > 2) {
            return NONE;
        }
        return ring.schemeFits(scheme, ring.floor()) ? 1 : 0;
    }

    public int least() {
        for (int floor = BID_LEAST; floor <= BID_MOST; floor++) {
            if (ring.schemeFits(2, floor)) {
                return floor;
            }
        }
        return NONE;
    }

    public long load(long times) {
        long all = ring.allLoads();
        if (times < 0 || (all > 0 && times > LOAD_MOST / all)) {
            return NONE;
        }
        return all * times;
    }

    public long mean(int station) {
        if (!ring.has(station)) {
            return NONE;
        }
        int[] tally = ring.stations[station].tally;
        return tally[TRIPS] > 0 ? tally[TRIP_TICKS] * 1000L / tally[TRIPS] : NONE;
    }

    public int found(int what) {
        if (what < 0 || what > 1) {
            return NONE;
        }
        thought.become(ring);
        if (thought.loseTokens() == 0) {
            return NONE;
        }
        for (int i = 1; i <= TICKS_TO_FIND; i++) {
            thought.advance();
            int winner = thought.winnerSince(ring.now);
            if (winner != NONE) {
                return what == 0 ? i : winner;
            }
        }
        return NONE;
    }

    public int would(int n, int what) {
        if (!canTick(n) || what < 0 || what > 5) {
            return NONE;
        }
        thought.become(ring);
        for (int i = 0; i < n; i++) {
            thought.advance();
        }
        switch (what) {
            case 0:
                return Integer.bitCount(thought.kindSet(UP));
            case 1:
                return thought.post.size;
            case 2:
                return thought.allTallied(MISSED);
            case 3:
                return thought.allTallied(DELIVERED);
            case 4:
                return thought.longestTrip();
            default:
                return thought.countTokens();
        }
    }

    public int asked(int station, int to, int priority, int length) {
        if (!ring.canFrame(station, to, priority, length)) {
            return NONE;
        }
        thought.become(ring);
        thought.askedWaited = WAITING;
        Rows line = thought.stations[station].line;
        line.put(thought.queue(station, to, priority, length), ASKED, 1);
        for (int i = 0; i < TICKS_TO_SEND; i++) {
            thought.advance();
            if (thought.askedWaited != WAITING) {
                return thought.askedWaited;
            }
        }
        return NONE;
    }

    public int book(int i, int what) {
        return ring.book.at(i, what);
    }

    public int log(int i, int what) {
        return ring.log.at(i, what);
    }

    public int count(int what) {
        return what < 0 || what >= COUNTS ? NONE : ring.counts[what];
    }

    public boolean image(boolean taken) {
        if (taken) {
            kept.become(ring);
            isKept = true;
        } else if (isKept) {
            ring.become(kept);
        }
        return isKept;
    }

    public int look(int what) {
        if (what >= 0 && what < TOLD) {
            return ring.told[what];
        }
        switch (what) {
            case 6:
                return ring.n;
            case 7:
                return ring.now;
            case 8:
                return ring.latency();
            case 9:
                return ring.floor();
            case 10:
                return ring.allShares();
            case 11:
                return ring.spare(ring.floor());
            case 12:
                return ring.post.size;
            case 13:
                return ring.countTokens();
            case 14:
            case 15:
            case 16:
            case 17:
                return ring.kindSet(what - 14 + UP);
            case 18:
                return ring.log.all;
            case 19:
                return ring.drawn;
            case 20:
                return ring.outSet();
            case 21:
                return ring.book.all;
            case 22:
                return ring.longestTrip();
            case 23:
                return ring.leastTarget();
            default:
                return UNKNOWN;
        }
    }

    private boolean canTick(int n) {
        return n >= 1 && n <= TICKS_AT_ONCE && ring.now <= LAST_TICK - n;
    }

    /** A bid for the time of a round, whose it is, and the how-manieth of that station it is. */
    private static final class Claim {
        int bid;
        int whose;
        int number;

        void become(int newBid, int newWhose, int newNumber) {
            bid = newBid;
            whose = newWhose;
            number = newNumber;
        }

        void become(Claim c) {
            bid = c.bid;
            whose = c.whose;
            number = c.number;
        }

        boolean isSame(Claim c) {
            return bid == c.bid && whose == c.whose && number == c.number;
        }

        boolean isBetter(Claim c) {
            return bid < c.bid || (bid == c.bid && whose < c.whose);
        }
    }

    /** What must go each period of a station, and how much of the latest is not sent yet. */
    private static final class Stream {
        int period;
        int length;
        int rest;

        void become(Stream other) {
            period = other.period;
            length = other.length;
            rest = other.rest;
        }

        /** How many rounds of a period are sure to come with a share; below 1: none. */
        int sureRounds(int floor) {
            return floor > 0 ? period / floor - 1 : 0;
        }

        boolean isSure(int share, int floor) {
            return sureRounds(floor) * share >= length;
        }

        int leastShare(int floor) {
            if (period == 0) {
                return 0;
            }
            int rounds = sureRounds(floor);
            return rounds < 1 ? NONE : (length + rounds - 1) / rounds;
        }

        long burden() {
            return period > 0 ? 1000000L * length / period : 0;
        }
    }

    /** A station's hold on the token, what it sends meanwhile, when it was taken, and when a token was let go last. */
    private static final class Hold {
        boolean isHeld;
        int left;
        int shareLeft;
        int sending;
        int ticksLeft;
        int size;
        int frameAt;
        // What is sent of a rest that has been replaced meanwhile must not lessen the new one.
        boolean isVoid;
        int restTicks;
        int frameTicks;
        int cameAt;
        // Of one that is up there is always such a tick: who becomes up lets a token go.
        int wentAt;

        void become(Hold other) {
            isHeld = other.isHeld;
            left = other.left;
            shareLeft = other.shareLeft;
            sending = other.sending;
            ticksLeft = other.ticksLeft;
            size = other.size;
            frameAt = other.frameAt;
            isVoid = other.isVoid;
            restTicks = other.restTicks;
            frameTicks = other.frameTicks;
            cameAt = other.cameAt;
            wentAt = other.wentAt;
        }

        void take(int now, int newLeft, int share) {
            isHeld = true;
            left = newLeft;
            shareLeft = share;
            restTicks = 0;
            frameTicks = 0;
            cameAt = now;
        }

        void start(int what, int length, int at) {
            sending = what;
            ticksLeft = length;
            size = length;
            frameAt = at;
            isVoid = false;
        }

        void drop() {
            isHeld = false;
            left = 0;
            shareLeft = 0;
            sending = NOTHING;
            ticksLeft = 0;
        }

        void voidRest() {
            if (sending == REST) {
                isVoid = true;
            }
        }

        /** One tick more of what is sent. */
        void sendTick() {
            ticksLeft--;
            if (sending == REST) {
                restTicks++;
            } else {
                frameTicks++;
                left = Math.max(0, left - 1);
            }
        }
    }

    /** Entries of some columns each, in the order in which they came: messages on their way, frames in a line. */
    private static final class Rows {
        final int limit;
        final int columns;
        final int[][] cells;
        int size;

        Rows(int newLimit, int newColumns) {
            limit = newLimit;
            columns = newColumns;
            cells = new int[newColumns][newLimit];
        }

        void become(Rows other) {
            for (int c = 0; c < columns; c++) {
                System.arraycopy(other.cells[c], 0, cells[c], 0, other.size);
            }
            size = other.size;
        }

        boolean isFull() {
            return size >= limit;
        }

        /** One more entry, to be filled by put; where it stands, or NONE if there is no room. */
        int open() {
            if (size >= limit) {
                return NONE;
            }
            size++;
            return size - 1;
        }

        void put(int i, int column, int v) {
            if (i >= 0 && i < size && column >= 0 && column < columns) {
                cells[column][i] = v;
            }
        }

        int at(int i, int column) {
            if (i < 0 || i >= size || column < 0 || column >= columns) {
                return NONE;
            }
            return cells[column][i];
        }

        void remove(int i) {
            if (i < 0 || i >= size) {
                return;
            }
            for (int c = 0; c < columns; c++) {
                System.arraycopy(cells[c], i + 1, cells[c], i, size - 1 - i);
            }
            size--;
        }

        int countOf(int column, int v) {
            int many = 0;
            for (int i = 0; i < size; i++) {
                if (cells[column][i] == v) {
                    many++;
                }
            }
            return many;
        }

        int removeAll(int column, int v) {
            int before = size;
            for (int i = before - 1; i >= 0; i--) {
                if (cells[column][i] == v) {
                    remove(i);
                }
            }
            return before - size;
        }

        /** Where the i-th entry by a column stands, the earlier one first of those alike; NONE if there is none. */
        int ranked(int column, int i) {
            for (int k = 0; k < size; k++) {
                int ahead = 0;
                for (int j = 0; j < size; j++) {
                    if (cells[column][j] < cells[column][k] || (cells[column][j] == cells[column][k] && j < k)) {
                        ahead++;
                    }
                }
                if (ahead == i) {
                    return k;
                }
            }
            return NONE;
        }
    }

    /** The latest lines of a log or a book: once it is full, each line takes the place of the oldest one. */
    private static final class Lines {
        final int limit;
        final int columns;
        final int[][] cells;
        int all;

        Lines(int newLimit, int newColumns) {
            limit = newLimit;
            columns = newColumns;
            cells = new int[newColumns][newLimit];
        }

        void become(Lines other) {
            for (int c = 0; c < columns; c++) {
                System.arraycopy(other.cells[c], 0, cells[c], 0, limit);
            }
            all = other.all;
        }

        /** One more line, to be filled by put. */
        void open() {
            all++;
        }

        /** Into the latest line. */
        void put(int column, int v) {
            if (all > 0 && limit > 0 && column >= 0 && column < columns) {
                cells[column][(all - 1) % limit] = v;
            }
        }

        /** Of the i-th line from the latest one backwards. */
        int at(int i, int column) {
            if (i < 0 || i >= Math.min(all, limit) || column < 0 || column >= columns) {
                return NONE;
            }
            return cells[column][(all - 1 - i) % limit];
        }
    }

    private static final class Station {
        final int me;
        int bid = 60;
        int share;
        boolean isOut;
        int kind;
        // The tick at which it began to claim, or became up.
        int since;
        final Claim goesBy = new Claim();
        final Claim best = new Claim();
        // How often it began to claim, which is the number of its latest claim too.
        int claims;
        // The tick at which it sent its best claim, or its beacon.
        int sentAt;
        int heardAt;
        int heardOf;
        int due;
        int late;
        int rounds;
        final Stream stream = new Stream();
        final Hold hold = new Hold();
        final Rows line = new Rows(FRAMES, FRAME_COLUMNS);
        final int[] tally = new int[TALLIES];

        Station(int number) {
            me = number;
        }

        void become(Station other) {
            bid = other.bid;
            share = other.share;
            isOut = other.isOut;
            kind = other.kind;
            since = other.since;
            goesBy.become(other.goesBy);
            best.become(other.best);
            claims = other.claims;
            sentAt = other.sentAt;
            heardAt = other.heardAt;
            heardOf = other.heardOf;
            due = other.due;
            late = other.late;
            rounds = other.rounds;
            stream.become(other.stream);
            hold.become(other.hold);
            line.become(other.line);
            System.arraycopy(other.tally, 0, tally, 0, TALLIES);
        }

        int view(int what, int now) {
            if (what >= TALLIES_FROM && what < TALLIES_FROM + TALLIES) {
                return tally[what - TALLIES_FROM];
            }
            boolean isUp = kind == UP;
            switch (what) {
                case 0:
                    return kind;
                case 1:
                    return bid;
                case 2:
                    return share;
                case 3:
                    return isUp ? goesBy.bid : NONE;
                case 4:
                    return isUp ? due - now : NONE;
                case 5:
                    return isUp ? late : 0;
                case 6:
                    return isUp ? rounds : 0;
                case 7:
                    return hold.isHeld ? 1 : 0;
                case 8:
                    return hold.left;
                case 9:
                    return hold.shareLeft;
                case 10:
                    return hold.ticksLeft;
                case 11:
                    return stream.rest;
                case 12:
                    return line.size;
                case 13:
                    return stream.period;
                case 14:
                    return stream.length;
                case 24:
                    return follows();
                case 25:
                    return claims;
                case 26:
                    return isOut ? 1 : 0;
                default:
                    return NONE;
            }
        }

        int follows() {
            switch (kind) {
                case UP:
                    return goesBy.whose;
                case CLAIMING:
                    return best.whose;
                case REPEATING:
                    return heardOf;
                default:
                    return NONE;
            }
        }

        boolean isBestOwn() {
            return best.whose == me && best.number == claims;
        }

        void goUp(Claim c, int now) {
            kind = UP;
            since = now;
            goesBy.become(c);
            due = now + c.bid;
            late = 0;
            rounds = 1;
            // It sends the token on at once, and that is letting it go as well.
            hold.wentAt = now;
            tally[TRIPS] = 0;
            tally[TRIP_TICKS] = 0;
            tally[LONGEST_TRIP] = 0;
        }

        /** The token comes to one that goes by it: early, it leaves time for more than the share. */
        void takeToken(int now) {
            rounds++;
            int left = 0;
            if (late == 0) {
                left = due - now;
                due = now + goesBy.bid;
            }
            late = 0;
            if (rounds >= 3) {
                int trip = now - hold.cameAt;
                tally[TRIPS]++;
                tally[TRIP_TICKS] += trip;
                tally[LONGEST_TRIP] = Math.max(tally[LONGEST_TRIP], trip);
            }
            hold.take(now, left, share);
        }

        void endRest() {
            if (hold.isVoid) {
                return;
            }
            stream.rest = Math.max(0, stream.rest - hold.size);
            if (stream.rest == 0) {
                tally[WHOLE]++;
            }
        }
    }

    /** All that is and was told, but for the image: so an image and a thought are rings of their own. */
    private static final class Ring {
        int n = 3;
        int now;
        int drawn;
        // A set of links.
        int cuts;
        final int[] told = new int[TOLD];
        final int[] delays = new int[STATIONS];
        final Station[] stations = new Station[STATIONS];
        final Rows post = new Rows(MESSAGES, MESSAGE_COLUMNS);
        final Lines log = new Lines(LOG_LINES, LOG_COLUMNS);
        final Lines book = new Lines(BOOK_LINES, BOOK_COLUMNS);
        final int[] counts = new int[COUNTS];
        // What the message that comes just now carries; a beacon's claim has its station alone.
        final Claim carried = new Claim();
        int askedWaited = WAITING;

        Ring() {
            System.arraycopy(TOLD_FIRST, 0, told, 0, TOLD);
            for (int i = 0; i < STATIONS; i++) {
                delays[i] = 2;
                stations[i] = new Station(i);
            }
        }

        void become(Ring other) {
            n = other.n;
            now = other.now;
            drawn = other.drawn;
            cuts = other.cuts;
            System.arraycopy(other.told, 0, told, 0, TOLD);
            System.arraycopy(other.delays, 0, delays, 0, STATIONS);
            for (int i = 0; i < STATIONS; i++) {
                stations[i].become(other.stations[i]);
            }
            post.become(other.post);
            log.become(other.log);
            book.become(other.book);
            System.arraycopy(other.counts, 0, counts, 0, COUNTS);
        }

        boolean has(int i) {
            return i >= 0 && i < n;
        }

        int after(int i) {
            return i + 1 < n ? i + 1 : 0;
        }

        int before(int i) {
            return i > 0 ? i - 1 : n - 1;
        }

        boolean isCut(int link) {
            return (cuts & 1 << link) != 0;
        }

        int latency() {
            int all = 0;
            for (int i = 0; i < n; i++) {
                all += delays[i];
            }
            return all;
        }

        int countIn() {
            return n - Integer.bitCount(outSet());
        }

        int outSet() {
            int set = 0;
            for (int i = 0; i < n; i++) {
                if (stations[i].isOut) {
                    set |= 1 << i;
                }
            }
            return set;
        }

        int kindSet(int kind) {
            int set = 0;
            for (int i = 0; i < n; i++) {
                if (stations[i].kind == kind) {
                    set |= 1 << i;
                }
            }
            return set;
        }

        int leastTarget() {
            int least = NONE;
            for (int i = 0; i < n; i++) {
                Station s = stations[i];
                if (s.kind == UP && (least == NONE || s.goesBy.bid < least)) {
                    least = s.goesBy.bid;
                }
            }
            return least;
        }

        int floor() {
            int least = leastTarget();
            for (int i = 0; i < n; i++) {
                Station s = stations[i];
                if (!s.isOut && (least == NONE || s.bid < least)) {
                    least = s.bid;
                }
            }
            return least;
        }

        int allShares() {
            int all = 0;
            for (int i = 0; i < n; i++) {
                all += stations[i].isOut ? 0 : stations[i].share;
            }
            return all;
        }

        boolean isWithinFloor() {
            return allShares() + latency() + told[MOST] <= floor();
        }

        int spare(int floor) {
            return Math.max(0, floor - latency() - told[MOST]);
        }

        long loadOf(Station s) {
            return s.isOut ? 0 : s.stream.burden();
        }

        long allLoads() {
            long all = 0;
            for (int i = 0; i < n; i++) {
                all += loadOf(stations[i]);
            }
            return all;
        }

        /** What a station would have by a scheme; NONE if it has none. */
        int dealtTo(int station, int scheme, int floor) {
            Station s = stations[station];
            if (s.isOut) {
                return 0;
            }
            if (scheme == 0) {
                int many = countIn();
                return many > 0 ? spare(floor) / many : 0;
            }
            if (scheme == 1) {
                long all = allLoads();
                return all > 0 ? (int) (spare(floor) * loadOf(s) / all) : 0;
            }
            return s.stream.leastShare(floor);
        }

        boolean schemeFits(int scheme, int floor) {
            if (latency() + told[MOST] > floor) {
                return false;
            }
            int together = 0;
            for (int i = 0; i < n; i++) {
                Station s = stations[i];
                int share = dealtTo(i, scheme, floor);
                if (share == NONE) {
                    return false;
                }
                if (!s.isOut && s.stream.period > 0 && !s.stream.isSure(share, floor)) {
                    return false;
                }
                together += share;
            }
            return together <= spare(floor);
        }

        int allTallied(int what) {
            int all = 0;
            for (int i = 0; i < n; i++) {
                all += stations[i].tally[what];
            }
            return all;
        }

        int longestTrip() {
            int longest = 0;
            for (int i = 0; i < n; i++) {
                longest = Math.max(longest, stations[i].tally[LONGEST_TRIP]);
            }
            return longest;
        }

        int countTokens() {
            int many = post.countOf(KIND, TOKEN);
            for (int i = 0; i < n; i++) {
                many += stations[i].hold.isHeld ? 1 : 0;
            }
            return many;
        }

        int loseTokens() {
            int many = countTokens();
            post.removeAll(KIND, TOKEN);
            for (int i = 0; i < n; i++) {
                stations[i].hold.drop();
            }
            return many;
        }

        /**
         * Whose claim it is by which all go, if they all became up after a tick. With all tokens lost at that tick,
         * none can have become up by a claim that won earlier.
         */
        int winnerSince(int tick) {
            Station one = null;
            for (int i = 0; i < n; i++) {
                Station s = stations[i];
                if (s.isOut) {
                    continue;
                }
                if (s.kind != UP || s.since <= tick || (one != null && !s.goesBy.isSame(one.goesBy))) {
                    return NONE;
                }
                one = s;
            }
            return one == null ? NONE : one.goesBy.whose;
        }

        int draw(int m) {
            drawn = 1664525 * drawn + 1013904223;
            return m > 0 ? (drawn >>> 8) % m : 0;
        }

        boolean canFrame(int station, int to, int priority, int length) {
            return has(station) && has(to) && station != to && priority >= 1 && priority <= 3 && length >= 1
                && length <= told[MOST] && !stations[station].line.isFull();
        }

        /** A frame that can come comes into a line: where it stands there. */
        int queue(int station, int to, int priority, int length) {
            Rows line = stations[station].line;
            int at = line.open();
            line.put(at, TO, to);
            line.put(at, PRIORITY, priority);
            line.put(at, LENGTH, length);
            line.put(at, CAME, now);
            line.put(at, ASKED, 0);
            return at;
        }

        void note(int what, int station, int number) {
            log.open();
            log.put(0, now);
            log.put(1, what);
            log.put(2, station);
            log.put(3, number);
        }

        void send(int station, int kind, Claim c) {
            counts[SENT]++;
            if (isCut(station) || post.isFull()) {
                counts[LOST]++;
                return;
            }
            int due = now + delays[station];
            for (int i = 0; i < post.size; i++) {
                if (post.cells[LINK][i] == station && post.cells[DUE][i] > due) {
                    due = post.cells[DUE][i];
                }
            }
            int at = post.open();
            post.put(at, KIND, kind);
            post.put(at, LINK, station);
            post.put(at, DUE, due);
            post.put(at, WHOSE, c.whose);
            post.put(at, BID, c.bid);
            post.put(at, NUMBER, c.number);
        }

        /** With the claim that came to it then, or with null. */
        void beginToClaim(Station s, Claim c) {
            s.kind = CLAIMING;
            s.since = now;
            s.sentAt = now;
            s.hold.drop();
            s.claims++;
            s.best.become(s.bid, s.me, s.claims);
            if (c != null && c.isBetter(s.best)) {
                s.best.become(c);
            }
            counts[CLAIMS]++;
            note(LOG_CLAIMS, s.me, s.bid);
            send(s.me, CLAIM, s.best);
        }

        void beginToBeacon(Station s) {
            s.kind = BEACONING;
            note(LOG_BEACONS, s.me, 0);
            sendBeacon(s);
        }

        void sendBeacon(Station s) {
            s.sentAt = now;
            counts[BEACONS]++;
            carried.become(0, s.me, 0);
            send(s.me, BEACON, carried);
        }

        /** A tick: messages come, streams go on, stations take their turns. */
        void advance() {
            now++;
            int many = post.size;
            int at = 0;
            // What is sent meanwhile stands behind these, and is due later.
            for (int i = 0; i < many; i++) {
                if (post.at(at, DUE) <= now) {
                    comes(at);
                } else {
                    at++;
                }
            }
            for (int i = 0; i < n; i++) {
                goOnStreaming(stations[i]);
            }
            for (int i = 0; i < n; i++) {
                takeTurn(stations[i]);
            }
        }

        void comes(int at) {
            int from = post.at(at, LINK);
            if (!has(from)) {
                return;
            }
            int kind = post.at(at, KIND);
            carried.become(post.at(at, BID), post.at(at, WHOSE), post.at(at, NUMBER));
            post.remove(at);
            Station s = stations[after(from)];
            if (s.isOut) {
                send(s.me, kind, carried);
            } else if (kind == CLAIM) {
                claimComes(s, carried);
            } else if (kind == BEACON) {
                beaconComes(s, carried);
            } else {
                tokenComes(s, carried);
            }
        }

        void claimComes(Station s, Claim c) {
            if (c.whose == s.me && c.number != s.claims) {
                return;
            }
            if (s.kind == CLAIMING) {
                compareClaim(s, c);
            } else if (s.kind == UP) {
                if (c.whose != s.goesBy.whose || c.number > s.goesBy.number) {
                    beginToClaim(s, c);
                }
            } else if (s.kind != BEACONING) {
                beginToClaim(s, c);
            }
        }

        void compareClaim(Station s, Claim c) {
            boolean isBest = c.isSame(s.best);
            if (isBest && s.isBestOwn()) {
                s.goUp(c, now);
                counts[WINS]++;
                note(LOG_WON, s.me, c.bid);
                send(s.me, TOKEN, c);
            } else if (isBest || c.isBetter(s.best) || (c.whose == s.best.whose && c.number > s.best.number)) {
                s.best.become(c);
                s.sentAt = now;
                send(s.me, CLAIM, c);
            }
        }

        void beaconComes(Station s, Claim c) {
            if (c.whose == s.me) {
                if (s.kind == BEACONING) {
                    beginToClaim(s, null);
                }
                return;
            }
            if (s.kind != REPEATING) {
                s.kind = REPEATING;
                s.hold.drop();
                note(LOG_REPEATS, s.me, c.whose);
            }
            s.heardAt = now;
            s.heardOf = c.whose;
            send(s.me, BEACON, c);
        }

        void tokenComes(Station s, Claim c) {
            if (s.kind == CLAIMING && c.isSame(s.best)) {
                s.goUp(c, now);
                note(LOG_UP, s.me, c.whose);
                send(s.me, TOKEN, c);
            } else if (s.kind != UP || !c.isSame(s.goesBy)) {
                counts[STRAY]++;
                note(LOG_STRAY, s.me, 0);
            } else if (s.hold.isHeld || now - s.hold.wentAt < latency()) {
                counts[DOUBLED]++;
                note(LOG_DOUBLED, s.me, 0);
            } else {
                s.takeToken(now);
            }
        }

        void goOnStreaming(Station s) {
            Stream stream = s.stream;
            if (s.isOut || stream.period <= 0 || now % stream.period != 0) {
                return;
            }
            if (stream.rest > 0) {
                s.tally[MISSED]++;
                note(LOG_MISSED, s.me, stream.rest);
                s.hold.voidRest();
            }
            stream.rest = stream.length;
        }

        void takeTurn(Station s) {
            if (s.isOut) {
                return;
            }
            if (s.hold.isHeld) {
                goOnHolding(s);
            }
            if (s.kind == UP) {
                watchDue(s);
            } else if (isOutOfPatience(s)) {
                beginToBeacon(s);
            } else if (now - s.sentAt >= told[REPEAT]) {
                sendAgain(s);
            }
        }

        boolean isOutOfPatience(Station s) {
            if (s.kind == CLAIMING) {
                return now - s.since >= told[PATIENCE];
            }
            return s.kind == REPEATING && now - s.heardAt >= told[PATIENCE];
        }

        void sendAgain(Station s) {
            if (s.kind == BEACONING) {
                sendBeacon(s);
            } else if (s.kind == CLAIMING && s.isBestOwn()) {
                s.sentAt = now;
                send(s.me, CLAIM, s.best);
            }
        }

        void watchDue(Station s) {
            if (s.due != now) {
                return;
            }
            s.due = now + s.goesBy.bid;
            if (s.late == 1) {
                beginToClaim(s, null);
            } else {
                s.late = 1;
            }
        }

        void goOnHolding(Station s) {
            Hold hold = s.hold;
            if (hold.sending != NOTHING) {
                counts[BUSY]++;
                hold.sendTick();
                if (hold.ticksLeft > 0) {
                    return;
                }
                if (hold.sending == REST) {
                    s.endRest();
                } else {
                    endFrame(s);
                }
                hold.sending = NOTHING;
            }
            if (!startsNext(s)) {
                letGo(s);
            }
        }

        /** What must go goes first, as far as the share goes; then frames, as long as the token is early. */
        boolean startsNext(Station s) {
            Hold hold = s.hold;
            int part = Math.min(s.stream.rest, hold.shareLeft);
            if (part > 0) {
                hold.shareLeft -= part;
                hold.start(REST, part, NONE);
                return true;
            }
            int at = hold.left > 0 && s.rounds >= 3 ? frameToSend(s) : NONE;
            if (at == NONE) {
                return false;
            }
            hold.start(FRAME, s.line.at(at, LENGTH), at);
            return true;
        }

        void letGo(Station s) {
            Hold hold = s.hold;
            book.open();
            book.put(0, s.me);
            book.put(1, hold.cameAt);
            book.put(2, now - hold.cameAt);
            book.put(3, hold.restTicks);
            book.put(4, hold.frameTicks);
            hold.drop();
            hold.wentAt = now;
            send(s.me, TOKEN, s.goesBy);
        }

        int frameToSend(Station s) {
            int at = NONE;
            int greatest = 0;
            for (int i = 0; i < s.line.size; i++) {
                int priority = s.line.at(i, PRIORITY);
                if (priority > greatest && priority <= 3 && told[LIMITS + priority - 1] < s.hold.left) {
                    greatest = priority;
                    at = i;
                }
            }
            return at;
        }

        void endFrame(Station s) {
            int at = s.hold.frameAt;
            int to = s.line.at(at, TO);
            if (!has(to)) {
                return;
            }
            boolean isLost = stations[to].isOut;
            int waited = now - s.line.at(at, CAME);
            int link = s.me;
            for (int i = 0; i < n && link != to; i++) {
                isLost |= isCut(link);
                waited += delays[link];
                link = after(link);
            }
            if (isLost) {
                s.tally[FRAMES_LOST]++;
            } else {
                s.tally[DELIVERED]++;
                s.tally[WAITED] += waited;
                s.tally[LONGEST_WAIT] = Math.max(s.tally[LONGEST_WAIT], waited);
            }
            if (s.line.at(at, ASKED) == 1) {
                askedWaited = isLost ? NONE : waited;
            }
            s.line.remove(at);
        }
    }
}
