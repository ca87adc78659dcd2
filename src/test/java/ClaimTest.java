/** Claims, messages, beacons: promises 13, 16, 19, 20, 21, 33 and the parts of 17, 32 and 35 that show them. */
public final class ClaimTest {
    private static final Check CHECK = new Check("ClaimTest");

    public static void main(String[] args) {
        claim();
        theLesserStationWins();
        theLesserBidWins();
        theGreaterNumberIsTaken();
        oldClaimsAreNothing();
        claimsAreSentAgain();
        whatIsBestAgainIsSentAgainLater();
        anUpStationClaimsWithABetterOne();
        neverAhead();
        inTheOrderInWhichTheyCome();
        aHundredOnTheirWay();
        whoIsOutSendsOn();
        beacons();
        whoRepeatsCanClaim();
        aBeaconEndsAHold();
        beaconsPassOneAnother();
        repeatingLosesPatience();
        suspectsBehindThoseOut();
        tick();
        CHECK.end();
    }

    /** Promise 13. */
    private static void claim() {
        EarlyToken x = new EarlyToken();
        CHECK.no("none such", x.claim(3));
        CHECK.no("none such", x.claim(-1));
        CHECK.yes("claim(1)", x.claim(1));
        CHECK.no("it is claiming", x.claim(1));
        CHECK.due("it is", x.station(1, 0), 2);
        CHECK.due("BEST is of", x.station(1, 24), 1);
        CHECK.due("claims begun", x.station(1, 25), 1);
        CHECK.due("no TARGET", x.station(1, 3), -1);
        CHECK.due("began TO CLAIM", x.count(5), 1);
        CHECK.due("MESSAGES sent", x.count(0), 1);
        CHECK.due("claiming", x.look(15), 2);
        CHECK.logged(x, 0, 0, 0, 1, 60);
        CHECK.due("log(1, 0)", x.log(1, 0), -1);
        CHECK.due("kind", x.message(0, 0), 0);
        CHECK.due("LINK", x.message(0, 1), 1);
        CHECK.due("due", x.message(0, 2), 2);
        CHECK.due("of", x.message(0, 3), 1);
        CHECK.due("bid", x.message(0, 4), 60);
        CHECK.due("another what", x.message(0, 5), -1);
        CHECK.due("another what", x.message(0, -1), -1);
        CHECK.due("none such", x.message(1, 0), -1);
        CHECK.due("none such", x.message(-1, 0), -1);
        x.tick(30);
        CHECK.due("up", x.station(1, 0), 1);
        CHECK.due("holds or not", x.look(13), 1);
        CHECK.yes("one that is up can", x.claim(1));
        CHECK.due("claims begun", x.station(1, 25), 2);
    }

    private static void theLesserStationWins() {
        EarlyToken x = new EarlyToken();
        x.claim(2);
        x.claim(0);
        x.tick(2);
        CHECK.due("of 1", x.station(1, 24), 0);
        CHECK.due("of 2, its own yet", x.station(2, 24), 2);
        x.tick(3);
        CHECK.due("none has won", x.count(4), 0);
        CHECK.due("of 2", x.station(2, 24), 0);
        x.tick(1);
        CHECK.due("0 has won", x.station(0, 0), 1);
        CHECK.due("won", x.count(4), 1);
        CHECK.due("sent", x.count(0), 5);
        CHECK.due("began", x.count(5), 3);
        CHECK.logged(x, 0, 6, 1, 0, 60);
        CHECK.due("a token", x.message(0, 0), 2);
        CHECK.due("of 0", x.message(0, 3), 0);
        CHECK.due("of its bid", x.message(0, 4), 60);
        x.tick(2);
        CHECK.logged(x, 0, 8, 7, 1, 0);
        CHECK.due("UP", x.look(14), 3);
        CHECK.due("ROUNDS", x.station(1, 6), 1);
        CHECK.due("DUE", x.station(1, 4), 60);
        x.tick(2);
        CHECK.logged(x, 0, 10, 7, 2, 0);
        CHECK.due("UP", x.look(14), 7);
    }

    private static void theLesserBidWins() {
        EarlyToken x = new EarlyToken();
        x.bid(2, 50);
        x.claim(0);
        x.tick(4);
        CHECK.due("2 sends its own", x.station(2, 24), 2);
        CHECK.due("its bid", x.message(0, 4), 50);
        CHECK.logged(x, 0, 4, 0, 2, 50);
        x.tick(2);
        CHECK.due("0 yields", x.station(0, 24), 2);
        x.tick(4);
        CHECK.due("2 has won", x.look(14), 4);
        CHECK.logged(x, 0, 10, 1, 2, 50);
        x.tick(6);
        CHECK.due("all go by it", x.look(14), 7);
        CHECK.due("TARGET", x.station(0, 3), 50);
        CHECK.due("by", x.station(0, 24), 2);
    }

    private static void theGreaterNumberIsTaken() {
        EarlyToken x = new EarlyToken();
        x.claim(0);
        x.out(0, true);
        x.out(0, false);
        x.bid(0, 70);
        x.claim(0);
        CHECK.due("two on their way", x.link(0, 2), 2);
        x.tick(2);
        CHECK.due("1 took the second, though its bid is greater", x.message(1, 4), 70);
        x.tick(3);
        CHECK.due("0 claims", x.station(0, 0), 2);
        x.tick(1);
        CHECK.due("0 has won by the second", x.station(0, 3), 70);
        CHECK.due("once", x.count(4), 1);
    }

    private static void oldClaimsAreNothing() {
        EarlyToken x = new EarlyToken();
        x.delay(2, 20);
        x.claim(0);
        x.tick(5);
        x.out(0, true);
        x.out(0, false);
        x.cut(0, true);
        x.claim(0);
        x.tick(18);
        CHECK.due("its latest is the second", x.station(0, 25), 2);
        x.tick(1);
        CHECK.due("the first comes: nothing", x.station(0, 0), 2);
        CHECK.due("none has won", x.count(4), 0);
        x = new EarlyToken();
        x.delay(2, 20);
        x.claim(0);
        x.tick(5);
        x.out(0, true);
        x.out(0, false);
        x.tick(18);
        CHECK.due("quiet", x.station(0, 0), 0);
        x.tick(1);
        CHECK.due("its latest comes to it: it claims", x.station(0, 0), 2);
        CHECK.due("anew", x.station(0, 25), 2);
    }

    private static void claimsAreSentAgain() {
        EarlyToken x = new EarlyToken();
        x.set(2, 5);
        x.claim(0);
        x.tick(4);
        CHECK.due("three sent", x.count(0), 3);
        x.tick(1);
        CHECK.due("0 sends again", x.count(0), 4);
        CHECK.due("on link 0", x.link(0, 2), 1);
        x.tick(2);
        CHECK.due("0 has won; 1 sends it on", x.count(0), 6);
        x.tick(4);
        CHECK.due("0 is up: nothing", x.station(0, 0), 1);
        CHECK.due("won once", x.count(4), 1);
        CHECK.due("claims begun", x.count(5), 3);
        x.tick(19);
        CHECK.due("all up", x.look(14), 7);
        CHECK.due("claims begun", x.count(5), 3);
        x = new EarlyToken();
        x.cut(1, true);
        x.claim(0);
        x.tick(19);
        CHECK.due("0, 1", x.count(0), 2);
        x.tick(1);
        CHECK.due("0 again, 1 never", x.count(0), 3);
        x.tick(20);
        CHECK.due("0 again, 1 sent it on", x.count(0), 5);
    }

    /** 1 yields to (50, 0, 1), then to (70, 0, 2), which is worse than its own, which then comes back to it at 6. */
    private static void whatIsBestAgainIsSentAgainLater() {
        EarlyToken x = new EarlyToken();
        x.bid(0, 50);
        x.claim(0);
        x.claim(1);
        x.tick(3);
        CHECK.due("1 yields", x.station(1, 24), 0);
        x.out(0, true);
        x.out(0, false);
        x.bid(0, 70);
        x.claim(0);
        x.tick(2);
        CHECK.due("1 yields to a worse one of the same station", x.station(1, 24), 0);
        x.tick(1);
        CHECK.due("its own is better than that", x.station(1, 24), 1);
        x.cut(0, true);
        x.cut(1, true);
        int sent = x.count(0);
        x.tick(19);
        CHECK.due("1 sent it 19 ago", x.count(0), sent);
        x.tick(1);
        CHECK.due("20 ago", x.count(0), sent + 1);
    }

    private static void anUpStationClaimsWithABetterOne() {
        EarlyToken x = new EarlyToken();
        x.claim(0);
        x.tick(20);
        CHECK.due("all up", x.look(14), 7);
        x.bid(1, 40);
        x.claim(1);
        x.tick(2);
        CHECK.due("2 claims", x.station(2, 0), 2);
        CHECK.due("with that of 1", x.station(2, 24), 1);
        x.tick(2);
        CHECK.due("0 claims", x.station(0, 24), 1);
        x.tick(2);
        CHECK.due("1 has won", x.station(1, 3), 40);
        x.tick(20);
        CHECK.due("all up", x.look(14), 7);
        CHECK.due("least TARGET", x.look(23), 40);
        CHECK.due("1 token", x.look(13), 1);
        CHECK.due("claims begun", x.count(5), 6);
    }

    private static void neverAhead() {
        EarlyToken x = new EarlyToken();
        x.set(2, 5);
        x.delay(0, 20);
        x.claim(0);
        x.tick(4);
        x.delay(0, 1);
        x.tick(1);
        CHECK.due("two", x.link(0, 2), 2);
        CHECK.due("the first", x.message(0, 2), 20);
        CHECK.due("the second, not ahead of it", x.message(1, 2), 20);
        x.cut(0, true);
        x.cut(0, false);
        x.tick(5);
        CHECK.due("what was lost holds up nothing", x.message(0, 2), 11);
    }

    /** Promise 20. */
    private static void inTheOrderInWhichTheyCome() {
        EarlyToken x = new EarlyToken();
        x.begin(4);
        x.delay(0, 9);
        x.delay(1, 5);
        x.delay(2, 9);
        x.delay(3, 1);
        for (int i = 0; i < 4; i++) {
            x.claim(i);
        }
        int[] links = {3, 1, 0, 2};
        int[] dues = {1, 5, 9, 9};
        for (int i = 0; i < 4; i++) {
            CHECK.due("LINK of message " + i, x.message(i, 1), links[i]);
            CHECK.due("due of message " + i, x.message(i, 2), dues[i]);
            CHECK.due("of", x.message(i, 3), links[i]);
        }
        CHECK.due("no fifth", x.message(4, 1), -1);
    }

    private static void aHundredOnTheirWay() {
        EarlyToken x = new EarlyToken();
        x.begin(2);
        x.claim(0);
        x.tick(4);
        CHECK.due("the token", x.look(12), 1);
        for (int i = 1; i < 100; i++) {
            CHECK.yes("doubled(0)", x.doubled(0));
        }
        CHECK.due("a hundred", x.look(12), 100);
        CHECK.due("tokens", x.look(13), 100);
        CHECK.due("none lost", x.count(1), 0);
        CHECK.yes("doubled(0)", x.doubled(0));
        CHECK.due("a hundred", x.look(12), 100);
        CHECK.due("one lost", x.count(1), 1);
        CHECK.due("sent", x.count(0), 103);
        CHECK.due("the last of them", x.message(99, 0), 2);
        CHECK.due("no more", x.message(100, 0), -1);
        CHECK.due("lose", x.lose(), 100);
        CHECK.due("to lose is no loss of messages", x.count(1), 1);
    }

    private static void whoIsOutSendsOn() {
        EarlyToken x = new EarlyToken();
        x.out(1, true);
        x.claim(0);
        x.tick(2);
        CHECK.due("on to link 1", x.message(0, 1), 1);
        CHECK.due("due", x.message(0, 2), 4);
        CHECK.due("of 0", x.message(0, 3), 0);
        CHECK.due("its bid", x.message(0, 4), 60);
        CHECK.due("1 is quiet", x.station(1, 0), 0);
        CHECK.due("sent", x.count(0), 2);
        x.tick(4);
        CHECK.due("0 has won", x.look(14), 1);
        CHECK.due("sent", x.count(0), 4);
        x.tick(4);
        CHECK.due("both up", x.look(14), 5);
        CHECK.due("began", x.count(5), 2);
        x.tick(200);
        CHECK.due("1 is quiet", x.station(1, 0), 0);
        CHECK.due("both up", x.look(14), 5);
        CHECK.due("nothing is stray", x.count(3), 0);
    }

    private static void beacons() {
        EarlyToken x = new EarlyToken();
        x.set(1, 50);
        x.cut(2, true);
        x.claim(0);
        x.tick(49);
        CHECK.due("claiming yet", x.look(15), 7);
        CHECK.due("suspects", x.suspects(), 0);
        x.tick(1);
        CHECK.due("0 is", x.station(0, 0), 3);
        CHECK.logged(x, 0, 50, 2, 0, 0);
        CHECK.due("BEACONS", x.count(6), 1);
        CHECK.due("suspects", x.suspects(), 4);
        CHECK.due("BEACON first, behind no claim", x.message(0, 0), 1);
        CHECK.due("of 0", x.message(0, 3), 0);
        CHECK.due("without a bid", x.message(0, 4), 0);
        CHECK.due("follows none", x.station(0, 24), -1);
        CHECK.no("it can't claim", x.claim(0));
        x.tick(2);
        CHECK.due("1 repeats", x.station(1, 0), 4);
        CHECK.due("0's beacon", x.station(1, 24), 0);
        CHECK.logged(x, 0, 52, 3, 1, 0);
        x.tick(2);
        CHECK.due("2 repeats", x.look(17), 6);
        CHECK.due("2 was claiming since 4, and has not begun", x.look(16), 1);
        int logs = x.look(18);
        x.tick(15);
        CHECK.due("BEACONS", x.count(6), 1);
        x.tick(1);
        CHECK.due("again, 20 later", x.count(6), 2);
        x.tick(10);
        CHECK.due("no line of the log for that", x.look(18), logs);
        x.cut(2, false);
        x.tick(13);
        CHECK.due("0 beacons", x.station(0, 0), 3);
        x.tick(3);
        CHECK.due("its third comes back: it claims", x.station(0, 0), 2);
        CHECK.logged(x, 0, 96, 0, 0, 60);
        CHECK.due("claims begun", x.station(0, 25), 2);
        x.tick(6);
        CHECK.due("it has won", x.station(0, 0), 1);
        x.tick(6);
        CHECK.due("all up", x.look(14), 7);
    }

    private static void aBeaconEndsAHold() {
        EarlyToken x = new EarlyToken();
        x.begin(2);
        x.bid(0, 500);
        x.bid(1, 500);
        x.set(1, 50);
        x.share(0, 99);
        x.stream(0, 100, 99);
        x.claim(0);
        x.tick(105);
        x.cut(1, true);
        x.claim(1);
        x.tick(50);
        CHECK.due("1 beacons", x.station(1, 0), 3);
        CHECK.due("0 holds the token", x.station(0, 7), 1);
        x.cut(1, false);
        x.tick(22);
        CHECK.due("0 heard it", x.station(0, 0), 4);
        CHECK.due("it holds none", x.station(0, 7), 0);
        CHECK.due("it sends nothing", x.station(0, 10), 0);
        CHECK.due("the REST is there", x.station(0, 11), 99);
        CHECK.due("no token", x.look(13), 0);
    }

    private static void whoRepeatsCanClaim() {
        EarlyToken x = new EarlyToken();
        x.set(1, 50);
        x.cut(2, true);
        x.claim(0);
        x.tick(52);
        CHECK.due("1 repeats", x.station(1, 0), 4);
        CHECK.yes("claim(1)", x.claim(1));
        CHECK.due("1 claims", x.station(1, 24), 1);
    }

    private static void beaconsPassOneAnother() {
        EarlyToken x = new EarlyToken();
        x.set(1, 50);
        x.cut(0, true);
        x.cut(1, true);
        x.claim(0);
        x.claim(1);
        x.tick(50);
        CHECK.due("both beacon", x.look(16), 3);
        CHECK.due("suspects", x.suspects(), 5);
        x.cut(0, false);
        x.tick(19);
        CHECK.due("both beacon", x.look(16), 3);
        x.tick(3);
        CHECK.due("1 heard 0", x.station(1, 0), 4);
        CHECK.due("whose", x.station(1, 24), 0);
        CHECK.due("suspects", x.suspects(), 4);
        CHECK.due("0 alone", x.look(16), 1);
    }

    private static void repeatingLosesPatience() {
        EarlyToken x = new EarlyToken();
        x.set(1, 50);
        x.cut(2, true);
        x.claim(0);
        x.tick(52);
        x.cut(0, true);
        x.tick(49);
        CHECK.due("1 heard it 49 ago", x.station(1, 0), 4);
        x.tick(1);
        CHECK.due("50 ago", x.station(1, 0), 3);
        CHECK.logged(x, 0, 102, 2, 1, 0);
        x.tick(2);
        CHECK.due("2 heard that of 1 just ahead", x.station(2, 0), 4);
        CHECK.due("whose", x.station(2, 24), 1);
        CHECK.due("0 and 1", x.look(16), 3);
        CHECK.due("suspects", x.suspects(), 5);
    }

    /** Promise 21. */
    private static void suspectsBehindThoseOut() {
        EarlyToken x = new EarlyToken();
        x.begin(5);
        x.set(1, 50);
        x.out(1, true);
        x.out(2, true);
        x.cut(0, true);
        x.claim(3);
        CHECK.due("none beacons", x.suspects(), 0);
        x.tick(50);
        CHECK.due("3 beacons", x.look(16), 8);
        CHECK.due("links 2, 1 and 0", x.suspects(), 7);
        x.out(1, false);
        CHECK.due("links 2 and 1", x.suspects(), 6);
        x.out(2, false);
        CHECK.due("link 2", x.suspects(), 4);
        x.begin(3);
        x.set(1, 50);
        x.out(2, true);
        x.cut(1, true);
        x.claim(0);
        x.tick(50);
        CHECK.due("round the ring's end", x.suspects(), 6);
    }

    /** Promise 16. */
    private static void tick() {
        EarlyToken x = new EarlyToken();
        CHECK.due("tick(0)", x.tick(0), -1);
        CHECK.due("tick(-1)", x.tick(-1), -1);
        CHECK.due("tick(301)", x.tick(301), -1);
        CHECK.due("tick(2147483647)", x.tick(Integer.MAX_VALUE), -1);
        CHECK.due("TICK", x.look(7), 0);
        CHECK.due("tick(1)", x.tick(1), 1);
        CHECK.due("tick(299)", x.tick(299), 300);
        for (int i = 2; i <= 99; i++) {
            CHECK.due("tick(300)", x.tick(300), 300 * i);
        }
        CHECK.due("tick(299)", x.tick(299), 29999);
        CHECK.due("tick(2)", x.tick(2), -1);
        CHECK.due("TICK", x.look(7), 29999);
        CHECK.due("tick(1)", x.tick(1), 30000);
        CHECK.due("tick(1)", x.tick(1), -1);
        CHECK.due("would(1, 0)", x.would(1, 0), -1);
    }
}
