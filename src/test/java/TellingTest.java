/** What can be told, and what can't: promises 1 to 12, and the parts of 17, 18, 19 and 35 that show it. */
public final class TellingTest {
    private static final Check CHECK = new Check("TellingTest");

    public static void main(String[] args) {
        newObject();
        begin();
        set();
        delay();
        cut();
        bid();
        share();
        sharesOfThoseOut();
        targetsHoldTheFloor();
        stream();
        frame();
        out();
        inAgain();
        state();
        storm();
        stormIntoFullLines();
        CHECK.end();
    }

    /** Promise 1. */
    private static void newObject() {
        EarlyToken x = new EarlyToken();
        int[] looks = {10, 200, 20, 0, 0, 0, 3, 0, 6, 60, 0, 44, 0, 0, 0, 0, 0, 0, 0, 0, 0, 0, 0, -1};
        for (int what = 0; what < looks.length; what++) {
            CHECK.due("new look(" + what + ")", x.look(what), looks[what]);
        }
        CHECK.due("look(24)", x.look(24), -100000);
        CHECK.due("look(-1)", x.look(-1), -100000);
        int[] first = {0, 60, 0, -1, -1, 0, 0, 0, 0, 0, 0, 0, 0, 0, 0, 0, 0, 0, 0, 0, 0, 0, 0, 0, -1, 0, 0};
        for (int station = 0; station < 3; station++) {
            for (int what = 0; what < first.length; what++) {
                CHECK.due("new station(" + station + ", " + what + ")", x.station(station, what), first[what]);
            }
            CHECK.due("a link's delay", x.link(station, 0), 2);
            CHECK.due("a link is whole", x.link(station, 1), 0);
            CHECK.due("a link is empty", x.link(station, 2), 0);
        }
        CHECK.due("station(0, 27)", x.station(0, 27), -1);
        CHECK.due("station(0, -1)", x.station(0, -1), -1);
        CHECK.due("station(3, 0)", x.station(3, 0), -1);
        CHECK.due("station(-1, 0)", x.station(-1, 0), -1);
        CHECK.due("link(0, 3)", x.link(0, 3), -1);
        CHECK.due("link(0, -1)", x.link(0, -1), -1);
        CHECK.due("link(3, 0)", x.link(3, 0), -1);
        CHECK.due("link(-1, 0)", x.link(-1, 0), -1);
    }

    /** Promise 2. */
    private static void begin() {
        EarlyToken x = new EarlyToken();
        CHECK.no("begin(1)", x.begin(1));
        CHECK.no("begin(9)", x.begin(9));
        CHECK.no("begin(-2147483648)", x.begin(Integer.MIN_VALUE));
        for (int n = 2; n <= 8; n++) {
            x.set(0, 7);
            x.set(1, 70);
            x.set(3, 5);
            x.delay(0, 3);
            x.cut(1, true);
            x.bid(0, 77);
            x.share(0, 4);
            x.stream(0, 30, 4);
            x.frame(0, 1, 1, 1);
            x.state(9);
            x.claim(0);
            x.tick(40);
            CHECK.yes("begin(" + n + ")", x.begin(n));
            CHECK.due("n", x.look(6), n);
            CHECK.due("LATENCY", x.look(8), 2 * n);
            CHECK.due("MOST", x.look(0), 10);
            CHECK.due("PATIENCE", x.look(1), 200);
            CHECK.due("LIMIT", x.look(3), 0);
            CHECK.due("TICK", x.look(7), 0);
            CHECK.due("STATE", x.look(19), 0);
            CHECK.due("no line of the log", x.look(18), 0);
            CHECK.due("log(0, 0)", x.log(0, 0), -1);
            CHECK.due("no message", x.look(12), 0);
            CHECK.due("none sent", x.count(0), 0);
            CHECK.due("whole", x.link(1, 1), 0);
            CHECK.due("bid", x.station(0, 1), 60);
            CHECK.due("share", x.station(0, 2), 0);
            CHECK.due("period", x.station(0, 13), 0);
            CHECK.due("line", x.station(0, 12), 0);
            CHECK.due("quiet", x.station(0, 0), 0);
            CHECK.due("the last station", x.station(n - 1, 0), 0);
            CHECK.due("none behind it", x.station(n, 0), -1);
            CHECK.no("refused", x.begin(9));
            CHECK.due("n stays", x.look(6), n);
        }
    }

    /** Promise 3. */
    private static void set() {
        EarlyToken x = new EarlyToken();
        int[] least = {1, 50, 5, 0, 0, 0};
        int[] most = {50, 999, 50, 500, 500, 500};
        for (int what = 0; what < 6; what++) {
            CHECK.no("below", x.set(what, least[what] - 1));
            CHECK.no("above", x.set(what, most[what] + 1));
            CHECK.yes("least of " + what, x.set(what, least[what]));
            CHECK.due("least of " + what, x.look(what), least[what]);
            CHECK.yes("most of " + what, x.set(what, most[what]));
            CHECK.due("most of " + what, x.look(what), most[what]);
        }
        CHECK.no("set(6, 1)", x.set(6, 1));
        CHECK.no("set(-1, 1)", x.set(-1, 1));
        x = new EarlyToken();
        x.share(0, 40);
        CHECK.no("MOST beyond FLOOR", x.set(0, 15));
        CHECK.due("MOST stays", x.look(0), 10);
        CHECK.yes("MOST as FLOOR lets it", x.set(0, 14));
        CHECK.due("SPARE", x.look(11), 40);
    }

    /** Promise 4. */
    private static void delay() {
        EarlyToken x = new EarlyToken();
        CHECK.no("delay(0, 0)", x.delay(0, 0));
        CHECK.no("delay(0, 21)", x.delay(0, 21));
        CHECK.no("delay(3, 2)", x.delay(3, 2));
        CHECK.no("delay(-1, 2)", x.delay(-1, 2));
        CHECK.yes("delay(0, 20)", x.delay(0, 20));
        CHECK.yes("delay(1, 20)", x.delay(1, 20));
        CHECK.no("50 are spent", x.delay(2, 11));
        CHECK.due("it stays", x.link(2, 0), 2);
        CHECK.yes("delay(2, 10)", x.delay(2, 10));
        CHECK.due("LATENCY", x.look(8), 50);
        CHECK.due("SPARE", x.look(11), 0);
        CHECK.yes("delay(2, 1)", x.delay(2, 1));
        CHECK.due("link(2, 0)", x.link(2, 0), 1);
    }

    /** Promise 5. */
    private static void cut() {
        EarlyToken x = new EarlyToken();
        CHECK.no("it is whole", x.cut(0, false));
        CHECK.no("cut(3, true)", x.cut(3, true));
        CHECK.no("cut(-1, true)", x.cut(-1, true));
        x.claim(0);
        x.claim(1);
        CHECK.due("on link 0", x.link(0, 2), 1);
        CHECK.yes("cut(0, true)", x.cut(0, true));
        CHECK.no("it is cut", x.cut(0, true));
        CHECK.due("link(0, 1)", x.link(0, 1), 1);
        CHECK.due("what was on it is lost", x.link(0, 2), 0);
        CHECK.due("what was on another is not", x.link(1, 2), 1);
        CHECK.due("LOST", x.count(1), 1);
        CHECK.yes("cut(0, false)", x.cut(0, false));
        CHECK.due("link(0, 1)", x.link(0, 1), 0);
        CHECK.due("LOST", x.count(1), 1);
        x = new EarlyToken();
        x.cut(2, true);
        x.claim(2);
        CHECK.due("sent", x.count(0), 1);
        CHECK.due("lost at once", x.count(1), 1);
        CHECK.due("none on its way", x.look(12), 0);
    }

    /** Promise 6. */
    private static void bid() {
        EarlyToken x = new EarlyToken();
        CHECK.no("bid(0, 9)", x.bid(0, 9));
        CHECK.no("bid(0, 501)", x.bid(0, 501));
        CHECK.no("bid(3, 60)", x.bid(3, 60));
        CHECK.no("bid(-1, 60)", x.bid(-1, 60));
        CHECK.yes("bid(0, 500)", x.bid(0, 500));
        CHECK.due("station(0, 1)", x.station(0, 1), 500);
        CHECK.due("FLOOR", x.look(9), 60);
        CHECK.no("LATENCY and MOST are 16", x.bid(1, 15));
        CHECK.due("it stays", x.station(1, 1), 60);
        CHECK.yes("bid(1, 16)", x.bid(1, 16));
        CHECK.due("FLOOR", x.look(9), 16);
        x = new EarlyToken();
        x.begin(2);
        x.delay(0, 1);
        x.delay(1, 1);
        x.set(0, 8);
        CHECK.yes("bid(0, 10)", x.bid(0, 10));
    }

    /** Promise 7. */
    private static void share() {
        EarlyToken x = new EarlyToken();
        CHECK.no("share(0, -1)", x.share(0, -1));
        CHECK.no("share(3, 0)", x.share(3, 0));
        CHECK.no("share(-1, 0)", x.share(-1, 0));
        CHECK.yes("share(0, 44)", x.share(0, 44));
        CHECK.no("share(1, 1)", x.share(1, 1));
        CHECK.no("share(0, 45)", x.share(0, 45));
        CHECK.due("station(0, 2)", x.station(0, 2), 44);
        CHECK.due("all SHARES", x.look(10), 44);
        CHECK.yes("share(0, 40)", x.share(0, 40));
        CHECK.yes("share(1, 4)", x.share(1, 4));
        CHECK.due("all SHARES", x.look(10), 44);
        x = new EarlyToken();
        for (int i = 0; i < 3; i++) {
            x.bid(i, 500);
        }
        CHECK.no("share(0, 201)", x.share(0, 201));
        CHECK.yes("share(0, 200)", x.share(0, 200));
    }

    private static void sharesOfThoseOut() {
        EarlyToken x = new EarlyToken();
        x.out(2, true);
        CHECK.yes("a share of one that is out", x.share(2, 200));
        CHECK.yes("a bid of one that is out", x.bid(2, 10));
        CHECK.due("FLOOR is of the others", x.look(9), 60);
        CHECK.due("SHARES are of the others", x.look(10), 0);
        CHECK.yes("share(0, 44)", x.share(0, 44));
        CHECK.due("SPARE", x.look(11), 44);
    }

    /** A claim that is on its way can win with a bid that its station has taken back meanwhile. */
    private static void targetsHoldTheFloor() {
        EarlyToken x = new EarlyToken();
        x.bid(1, 400);
        x.bid(2, 400);
        x.claim(0);
        x.bid(0, 400);
        CHECK.due("FLOOR of the bids", x.look(9), 400);
        CHECK.yes("share(0, 100)", x.share(0, 100));
        x.tick(6);
        CHECK.due("TARGET", x.station(0, 3), 60);
        CHECK.due("FLOOR of the target", x.look(9), 60);
        CHECK.due("least TARGET", x.look(23), 60);
        CHECK.due("SPARE", x.look(11), 44);
        CHECK.no("still too much", x.share(0, 45));
        CHECK.due("it stays", x.station(0, 2), 100);
        CHECK.no("nothing fits now", x.delay(0, 1));
        CHECK.no("nothing fits now", x.set(0, 1));
        CHECK.no("nothing fits now", x.bid(1, 500));
        CHECK.yes("what isn't bound", x.set(1, 60));
        CHECK.yes("share(0, 44)", x.share(0, 44));
    }

    /** Promise 8. */
    private static void stream() {
        EarlyToken x = new EarlyToken();
        CHECK.no("stream(0, 19, 5)", x.stream(0, 19, 5));
        CHECK.no("stream(0, 1000, 5)", x.stream(0, 1000, 5));
        CHECK.no("stream(0, -20, 5)", x.stream(0, -20, 5));
        CHECK.no("stream(0, 20, 0)", x.stream(0, 20, 0));
        CHECK.no("stream(0, 20, 100)", x.stream(0, 20, 100));
        CHECK.no("stream(3, 20, 5)", x.stream(3, 20, 5));
        CHECK.no("stream(-1, 0, 5)", x.stream(-1, 0, 5));
        CHECK.yes("none told, none there", x.stream(0, 0, -7));
        CHECK.yes("stream(0, 20, 1)", x.stream(0, 20, 1));
        CHECK.yes("stream(1, 999, 99)", x.stream(1, 999, 99));
        CHECK.due("PERIOD", x.station(0, 13), 20);
        CHECK.due("LENGTH", x.station(0, 14), 1);
        CHECK.due("PERIOD", x.station(1, 13), 999);
        CHECK.due("LENGTH", x.station(1, 14), 99);
        x.tick(19);
        CHECK.due("no REST yet", x.station(0, 11), 0);
        x.tick(1);
        CHECK.due("REST", x.station(0, 11), 1);
        CHECK.no("refused", x.stream(0, 20, 100));
        CHECK.due("REST stays", x.station(0, 11), 1);
        CHECK.yes("told anew", x.stream(0, 40, 9));
        CHECK.due("REST is 0", x.station(0, 11), 0);
        x.tick(20);
        CHECK.due("REST", x.station(0, 11), 9);
        CHECK.due("MISSED", x.station(0, 15), 0);
        x.tick(40);
        CHECK.due("MISSED", x.station(0, 15), 1);
        CHECK.yes("none", x.stream(0, 0, 1000));
        CHECK.due("PERIOD", x.station(0, 13), 0);
        CHECK.due("LENGTH", x.station(0, 14), 0);
        CHECK.due("REST", x.station(0, 11), 0);
        x.tick(80);
        CHECK.due("REST", x.station(0, 11), 0);
        CHECK.due("MISSED", x.station(0, 15), 1);
    }

    /** Promise 9, and 18. */
    private static void frame() {
        EarlyToken x = new EarlyToken();
        CHECK.due("to itself", x.frame(0, 0, 1, 1), -1);
        CHECK.due("to none", x.frame(0, 3, 1, 1), -1);
        CHECK.due("to none", x.frame(0, -1, 1, 1), -1);
        CHECK.due("of none", x.frame(3, 0, 1, 1), -1);
        CHECK.due("of none", x.frame(-1, 0, 1, 1), -1);
        CHECK.due("priority 0", x.frame(0, 1, 0, 1), -1);
        CHECK.due("priority 4", x.frame(0, 1, 4, 1), -1);
        CHECK.due("length 0", x.frame(0, 1, 1, 0), -1);
        CHECK.due("length 11", x.frame(0, 1, 1, 11), -1);
        CHECK.due("none came", x.station(0, 12), 0);
        x.tick(5);
        CHECK.due("the first", x.frame(0, 1, 1, 10), 1);
        x.tick(2);
        for (int i = 2; i <= 8; i++) {
            CHECK.due("the next", x.frame(0, 2, 1 + i % 3, i), i);
        }
        CHECK.due("the ninth", x.frame(0, 1, 1, 1), -1);
        CHECK.due("frames", x.station(0, 12), 8);
        CHECK.due("TO", x.queued(0, 0, 0), 1);
        CHECK.due("PRIORITY", x.queued(0, 0, 1), 1);
        CHECK.due("length", x.queued(0, 0, 2), 10);
        CHECK.due("TICK", x.queued(0, 0, 3), 5);
        CHECK.due("TO", x.queued(0, 7, 0), 2);
        CHECK.due("PRIORITY", x.queued(0, 7, 1), 3);
        CHECK.due("length", x.queued(0, 7, 2), 8);
        CHECK.due("TICK", x.queued(0, 7, 3), 7);
        CHECK.due("no such", x.queued(0, 8, 0), -1);
        CHECK.due("no such", x.queued(0, -1, 0), -1);
        CHECK.due("no such", x.queued(1, 0, 0), -1);
        CHECK.due("no such", x.queued(3, 0, 0), -1);
        CHECK.due("no such", x.queued(-1, 0, 0), -1);
        CHECK.due("no such", x.queued(0, 0, 4), -1);
        CHECK.due("no such", x.queued(0, 0, -1), -1);
        CHECK.yes("a lesser MOST", x.set(0, 3));
        CHECK.due("the length is as it was told", x.queued(0, 0, 2), 10);
        CHECK.due("longer than MOST", x.frame(1, 0, 1, 4), -1);
        CHECK.due("as long as MOST", x.frame(1, 0, 1, 3), 1);
    }

    /** Promise 10. */
    private static void out() {
        EarlyToken x = new EarlyToken();
        CHECK.no("it is in", x.out(0, false));
        CHECK.no("none such", x.out(3, true));
        CHECK.no("none such", x.out(-1, true));
        x.claim(1);
        CHECK.yes("out(1, true)", x.out(1, true));
        CHECK.due("OUT", x.station(1, 26), 1);
        CHECK.due("it is quiet", x.station(1, 0), 0);
        CHECK.due("all that are out", x.look(20), 2);
        CHECK.no("it is out", x.out(1, true));
        CHECK.no("two must stay", x.out(0, true));
        CHECK.no("it can't claim", x.claim(1));
        CHECK.yes("out(1, false)", x.out(1, false));
        CHECK.due("OUT", x.station(1, 26), 0);
        CHECK.due("it is quiet", x.station(1, 0), 0);
        CHECK.due("how often it began to claim", x.station(1, 25), 1);
        CHECK.yes("out(0, true)", x.out(0, true));
        CHECK.due("all that are out", x.look(20), 1);
    }

    private static void inAgain() {
        EarlyToken x = new EarlyToken();
        x.out(2, true);
        x.bid(2, 15);
        CHECK.no("its bid is too little", x.out(2, false));
        CHECK.due("it stays out", x.station(2, 26), 1);
        x.bid(2, 60);
        x.share(2, 30);
        x.share(0, 15);
        CHECK.no("the shares are too much", x.out(2, false));
        CHECK.due("it stays out", x.look(20), 4);
        x.share(0, 14);
        CHECK.yes("as much as FLOOR lets", x.out(2, false));
        CHECK.due("SHARES", x.look(10), 44);
    }

    /** Promise 11. */
    private static void state() {
        EarlyToken x = new EarlyToken();
        CHECK.due("state(5)", x.state(5), 0);
        CHECK.due("state(-7)", x.state(-7), 5);
        CHECK.due("look(19)", x.look(19), -7);
        CHECK.due("state(2147483647)", x.state(Integer.MAX_VALUE), -7);
        CHECK.due("look(19)", x.look(19), Integer.MAX_VALUE);
    }

    /** Promise 12, with the draws worked out here. */
    private static void storm() {
        for (int n = 2; n <= 8; n++) {
            EarlyToken x = new EarlyToken();
            x.begin(n);
            if (n > 2) {
                x.out(n - 1, true);
            }
            x.set(0, 9);
            x.state(n * 7919);
            long state = n * 7919;
            int[] came = new int[n];
            CHECK.due("storm(6)", x.storm(6), 6);
            for (int i = 0; i < 6; i++) {
                int[] drawn = new int[4];
                for (int k = 0; k < 4; k++) {
                    state = state * 1664525L + 1013904223L & 0xffffffffL;
                    drawn[k] = (int) ((state >> 8) % (k == 0 ? n : k == 1 ? n - 1 : k == 2 ? 3 : 9));
                }
                int to = drawn[1] + (drawn[1] >= drawn[0] ? 1 : 0);
                int at = came[drawn[0]]++;
                CHECK.due("TO", x.queued(drawn[0], at, 0), to);
                CHECK.due("PRIORITY", x.queued(drawn[0], at, 1), drawn[2] + 1);
                CHECK.due("length", x.queued(drawn[0], at, 2), drawn[3] + 1);
            }
            CHECK.due("STATE", x.look(19), (int) state);
        }
    }

    private static void stormIntoFullLines() {
        EarlyToken x = new EarlyToken();
        CHECK.due("storm(0)", x.storm(0), -1);
        CHECK.due("storm(31)", x.storm(31), -1);
        CHECK.due("storm(-1)", x.storm(-1), -1);
        CHECK.due("no draw", x.look(19), 0);
        int came = x.storm(30);
        int there = 0;
        for (int i = 0; i < 3; i++) {
            there += x.station(i, 12);
        }
        CHECK.due("as many as came", there, came);
        CHECK.yes("no line has more than 8", came <= 24);
        for (int i = 0; i < 9; i++) {
            came += x.storm(30);
        }
        CHECK.due("all lines are full", came, 24);
        int before = x.look(19);
        CHECK.due("none came", x.storm(1), 0);
        int state = before;
        for (int k = 0; k < 4; k++) {
            state = state * 1664525 + 1013904223;
        }
        CHECK.due("four draws all the same", x.look(19), state);
    }
}
