/**
 * Claims, beacons and messages, sentence by sentence of the part "Terms" 1 to 3 and of the promises 13, 16, 19, 20, 21:
 * who is better by how much, what is just in time, what is just too late, what is nothing.
 */
public final class EdgesOfClaimsTest {
    private static final Check CHECK = new Check("EdgesOfClaimsTest");
    private static final int MIN = Integer.MIN_VALUE;
    private static final int MAX = Integer.MAX_VALUE;

    public static void main(String[] args) {
        betterByTheLesserBid();
        ofBothAlikeByTheLesserStation();
        bestIsItsOwnUnlessABetterOneHasCome();
        ofAnotherNumberThanItsLatest();
        itsOwnOfTheSameBidIsNotBetter();
        bestAndItsOwnWins();
        bestIsSentOn();
        worseIsNothing();
        worseOfAGreaterNumberOfAnotherIsNothing();
        worseOfAGreaterNumberOfBestIsBest();
        upAndNoGreaterIsNothing();
        upAndGreaterBegins();
        upAndOfAnotherBegins();
        quietAndRepeatingBegin();
        toOneBeaconingNothing();
        whoWonIsUp();
        whoBeganHoldsNoToken();
        patienceTicksOrMore();
        repeatTicksOrMore();
        bestOfAnotherIsNotSentAgain();
        beaconsRepeatTicksOrMore();
        heardPatienceTicksAgoOrMore();
        heardAnewIsHeardThen();
        itsOwnBeaconToOneBeaconing();
        itsOwnBeaconToOneRepeating();
        itsOwnBeaconToOneQuiet();
        itsOwnBeaconToOneClaiming();
        anothersBeacon();
        claimOfWhom();
        delayAsToldThen();
        neverAheadOfOneSentEarlier();
        anotherLinkDoesNotMatter();
        laterOnAQuickerLinkComesFirst();
        thoseSentEarlierFirst();
        aHundredAreOnTheirWay();
        alongALinkThatIsCut();
        asALinkIsCut();
        whoIsOutSendsOnAtOnce();
        whoIsOutDoesNothing();
        messageThatIs();
        linkThatIs();
        stationThatIs();
        whoIsNotUp();
        outOrNot();
        whomItFollows();
        suspects();
        suspectsRoundTheRing();
        ticksOneToThreeHundred();
        noTickAboveThirtyThousand();
        CHECK.end();
    }

    private static EarlyToken ring(int n) {
        EarlyToken x = new EarlyToken();
        x.begin(n);
        return x;
    }

    /** PATIENCE 50, link 2 is cut; 0 claims at 0 and beacons from 50 on; 1 and 2 repeat from 52 and 54 on. */
    private static EarlyToken beaconing(int ticks) {
        EarlyToken x = new EarlyToken();
        x.set(1, 50);
        x.cut(2, true);
        x.claim(0);
        x.tick(ticks);
        return x;
    }

    private static void kinds(String what, EarlyToken x, int... kinds) {
        for (int i = 0; i < kinds.length; i++) {
            CHECK.due(what + ": what " + i + " is at " + x.look(7), x.station(i, 0), kinds[i]);
        }
    }

    /** "one is better than another one by the lesser bid" */
    private static void betterByTheLesserBid() {
        for (int bid = 59; bid <= 61; bid++) {
            EarlyToken x = ring(3);
            x.bid(1, bid);
            x.claim(0);
            x.claim(1);
            x.tick(6);
            kinds("a bid of " + bid + " against 60", x, bid < 60 ? 2 : 1, bid < 60 ? 1 : 2, 2);
        }
    }

    /** "of both alike by the lesser STATION" */
    private static void ofBothAlikeByTheLesserStation() {
        for (int i = 0; i < 4; i++) {
            for (int k = i + 1; k < 4; k++) {
                EarlyToken x = ring(4);
                for (int other = 0; other < 4; other++) {
                    x.bid(other, other == i || other == k ? 70 : 80);
                }
                x.claim(k);
                x.claim(i);
                x.tick(20);
                CHECK.due("won", x.count(4), 1);
                for (int other = 0; other < 4; other++) {
                    CHECK.station(x, other, 24, i);
                }
            }
        }
    }

    /** "BEST is its own, unless one that is better has come to it then" */
    private static void bestIsItsOwnUnlessABetterOneHasCome() {
        for (int bid = 59; bid <= 61; bid++) {
            EarlyToken x = ring(3);
            x.bid(1, bid);
            x.claim(0);
            x.tick(2);
            CHECK.station(x, 1, 24, bid < 60 ? 1 : 0);
            CHECK.due("BEST is sent", x.message(0, 3), bid < 60 ? 1 : 0);
            CHECK.due("BEST is sent", x.message(0, 4), Math.min(60, bid));
            CHECK.logged(x, 0, 2, 0, 1, bid);
            x = ring(3);
            x.bid(0, bid);
            x.claim(2);
            x.tick(2);
            CHECK.station(x, 0, 24, bid < 61 ? 0 : 2);
            CHECK.due("BEST is sent", x.message(0, 3), bid < 61 ? 0 : 2);
        }
    }

    /** "one of that very STATION, but of another number than its latest: nothing" */
    private static void ofAnotherNumberThanItsLatest() {
        EarlyToken x = ring(3);
        x.delay(2, 20);
        x.claim(0);
        x.tick(5);
        goOutAndIn(x, 0);
        x.cut(0, true);
        x.claim(0);
        x.tick(18);
        int sent = x.count(0);
        CHECK.due("the first one is on its way", x.message(0, 2), 24);
        x.tick(1);
        CHECK.due("it came", x.look(12), 0);
        kinds("claiming: nothing", x, 2);
        CHECK.due("nothing is sent", x.count(0), sent);
        CHECK.due("won", x.count(4), 0);
        CHECK.station(x, 0, 25, 2);
        x = ring(3);
        x.delay(2, 20);
        x.claim(0);
        x.tick(5);
        goOutAndIn(x, 0);
        x.cut(0, true);
        x.claim(0);
        goOutAndIn(x, 0);
        x.tick(19);
        kinds("quiet: nothing", x, 0);
        CHECK.due("nobody began", x.count(5), 4);
    }

    private static void goOutAndIn(EarlyToken x, int station) {
        CHECK.yes("out", x.out(station, true));
        CHECK.yes("in", x.out(station, false));
    }

    /** 0 is quiet as its latest claim comes back: it begins anew, and BEST is the new one. */
    private static void itsOwnOfTheSameBidIsNotBetter() {
        EarlyToken x = ring(3);
        x.delay(2, 20);
        x.claim(0);
        x.tick(5);
        goOutAndIn(x, 0);
        x.tick(19);
        CHECK.station(x, 0, 0, 2);
        CHECK.station(x, 0, 25, 2);
        x.tick(23);
        CHECK.due("not yet", x.count(4), 0);
        x.tick(1);
        CHECK.due("the new one WON", x.count(4), 1);
        CHECK.logged(x, 0, 48, 1, 0, 60);
    }

    /** "is c BEST and its own: it WON" */
    private static void bestAndItsOwnWins() {
        EarlyToken x = ring(3);
        x.claim(1);
        x.bid(0, 61);
        x.tick(5);
        CHECK.due("not yet", x.count(4), 0);
        x.tick(1);
        CHECK.due("WON", x.count(4), 1);
        kinds("1 alone is up", x, 2, 1, 2);
        x = ring(3);
        x.bid(2, 50);
        x.claim(0);
        x.tick(3);
        x.claim(2);
        x.tick(3);
        CHECK.due("its own comes, but BEST is another one", x.count(4), 0);
        CHECK.station(x, 0, 24, 2);
    }

    /** "Is c BEST: it is sent on." */
    private static void bestIsSentOn() {
        EarlyToken x = ring(3);
        x.set(2, 5);
        x.claim(0);
        x.tick(4);
        CHECK.due("by all three", x.count(0), 3);
        x.tick(1);
        CHECK.due("again by 0", x.count(0), 4);
        x.tick(2);
        CHECK.due("WON at 6; again by 1", x.count(0), 6);
        CHECK.due("a claim on link 1", x.link(1, 2), 1);
        CHECK.due("began", x.count(5), 3);
    }

    /** "Else nothing." */
    private static void worseIsNothing() {
        EarlyToken x = ring(3);
        x.bid(0, 61);
        x.claim(0);
        x.claim(1);
        x.tick(2);
        CHECK.due("0's came to 1: nothing; 1's to 2: sent on", x.count(0), 3);
        CHECK.station(x, 1, 24, 1);
        CHECK.due("on link 1", x.link(1, 2), 0);
        x = ring(3);
        x.claim(1);
        x.claim(0);
        x.claim(2);
        x.tick(2);
        CHECK.due("2's, as bid, but of a greater station", x.station(0, 24), 0);
        CHECK.due("nothing is sent by 0", x.link(0, 2), 0);
    }

    /** "or of BEST's STATION with a greater number" */
    private static void worseOfAGreaterNumberOfAnotherIsNothing() {
        EarlyToken x = ring(3);
        x.bid(0, 61);
        x.claim(0);
        x.cut(0, true);
        x.cut(0, false);
        goOutAndIn(x, 0);
        x.claim(1);
        x.claim(0);
        CHECK.station(x, 0, 25, 2);
        x.tick(2);
        CHECK.station(x, 1, 24, 1);
        CHECK.due("nothing is sent by 1", x.link(1, 2), 0);
    }

    private static void worseOfAGreaterNumberOfBestIsBest() {
        EarlyToken x = ring(3);
        x.claim(0);
        x.tick(2);
        goOutAndIn(x, 0);
        x.bid(0, 70);
        x.claim(0);
        int sent = x.count(0);
        x.tick(2);
        CHECK.station(x, 1, 24, 0);
        CHECK.due("sent on by 1, by 2 its own or 0's", x.count(0), sent + 2);
        CHECK.due("the worse one is sent on", x.link(1, 2), 1);
        CHECK.due("its bid", bidOn(x, 1), 70);
    }

    private static int bidOn(EarlyToken x, int link) {
        for (int i = 0; i < x.look(12); i++) {
            if (x.message(i, 1) == link) {
                return x.message(i, 4);
            }
        }
        return -1;
    }

    /** "UP: is it of the STATION of that by which it goes, and its number no greater: nothing" */
    private static void upAndNoGreaterIsNothing() {
        EarlyToken x = ring(3);
        x.set(2, 5);
        x.claim(0);
        x.tick(10);
        kinds("all up", x, 1, 1, 1);
        CHECK.due("the claim of 5 is on its way to 0 yet", x.link(2, 2), 2);
        int sent = x.count(0);
        int logs = x.look(18);
        x.tick(1);
        CHECK.due("it came", x.link(2, 2), 1);
        kinds("nothing", x, 1, 1, 1);
        CHECK.due("nothing is sent", x.count(0), sent);
        CHECK.due("nothing is logged", x.look(18), logs);
    }

    private static void upAndGreaterBegins() {
        EarlyToken x = ring(3);
        x.claim(0);
        x.tick(10);
        x.claim(0);
        x.tick(1);
        kinds("not yet", x, 2, 1, 1);
        x.tick(1);
        kinds("1 begins", x, 2, 2, 1);
        CHECK.station(x, 1, 24, 0);
        CHECK.logged(x, 0, 12, 0, 1, 60);
    }

    /** "else it begins TO CLAIM with c" */
    private static void upAndOfAnotherBegins() {
        for (int bid = 59; bid <= 61; bid++) {
            EarlyToken x = ring(3);
            x.claim(0);
            x.tick(10);
            x.bid(2, bid);
            x.claim(2);
            x.tick(2);
            CHECK.station(x, 0, 0, 2);
            CHECK.station(x, 0, 24, bid < 60 ? 2 : 0);
            CHECK.station(x, 0, 25, 2);
        }
    }

    /** "QUIET, REPEATING: likewise TO CLAIM with c." */
    private static void quietAndRepeatingBegin() {
        EarlyToken x = ring(2);
        kinds("quiet", x, 0, 0);
        x.claim(0);
        x.tick(2);
        kinds("begun", x, 2, 2);
        x = beaconing(54);
        kinds("repeating", x, 3, 4, 4);
        x.claim(1);
        x.tick(2);
        kinds("begun", x, 3, 2, 2);
        CHECK.station(x, 2, 24, 1);
        CHECK.station(x, 2, 25, 2);
    }

    /** "BEACONING: nothing." */
    private static void toOneBeaconingNothing() {
        EarlyToken x = beaconing(55);
        x.cut(2, false);
        x.bid(2, 50);
        x.claim(2);
        int sent = x.count(0);
        int logs = x.look(18);
        x.tick(2);
        CHECK.due("it came", x.link(2, 2), 0);
        kinds("nothing", x, 3, 4, 2);
        CHECK.due("nothing is sent on", x.count(0), sent);
        CHECK.due("nothing is logged", x.look(18), logs);
        x.tick(12);
        CHECK.due("no beacon till 70", x.count(6), 1);
        x.tick(1);
        CHECK.due("at 70", x.count(6), 2);
    }

    /** "Who WON is UP by that CLAIM: DUE is TICK and TARGET, LATE 0, ROUNDS 1; it sends a TOKEN of it." */
    private static void whoWonIsUp() {
        EarlyToken x = ring(2);
        x.claim(0);
        x.tick(10);
        x.lose();
        x.tick(117);
        CHECK.station(x, 0, 5, 1);
        x.tick(1);
        kinds("LATE for the second time", x, 2);
        x.bid(0, 77);
        x.tick(4);
        kinds("WON", x, 1);
        CHECK.logged(x, 0, 132, 1, 0, 60);
        CHECK.station(x, 0, 3, 60);
        CHECK.station(x, 0, 4, 60);
        CHECK.station(x, 0, 5, 0);
        CHECK.station(x, 0, 6, 1);
        CHECK.station(x, 0, 7, 0);
        CHECK.due("a TOKEN", x.message(0, 0), 2);
        CHECK.due("of 0", x.message(0, 3), 0);
        CHECK.due("due", x.message(0, 2), 134);
        x.tick(2);
        CHECK.station(x, 1, 0, 1);
        CHECK.station(x, 1, 3, 60);
        CHECK.station(x, 1, 4, 60);
        CHECK.station(x, 1, 5, 0);
        CHECK.station(x, 1, 6, 1);
        CHECK.due("the TOKEN is sent on", x.message(0, 2), 136);
    }

    /** "it holds no token any more (what it was sending is not sent)" */
    private static void whoBeganHoldsNoToken() {
        EarlyToken x = ring(2);
        x.share(0, 9);
        x.stream(0, 20, 9);
        x.claim(0);
        x.tick(28);
        CHECK.station(x, 0, 10, 1);
        CHECK.station(x, 0, 7, 1);
        x.claim(0);
        CHECK.station(x, 0, 7, 0);
        CHECK.station(x, 0, 8, 0);
        CHECK.station(x, 0, 9, 0);
        CHECK.station(x, 0, 10, 0);
        CHECK.due("no token", x.look(13), 0);
        x.tick(1);
        CHECK.station(x, 0, 11, 9);
        CHECK.station(x, 0, 16, 0);
        CHECK.due("no TICK more", x.count(7), 8);
    }

    /** "CLAIMING: is it so PATIENCE TICKS (or more) by now: BEACONING" */
    private static void patienceTicksOrMore() {
        for (int patience : new int[] {50, 51, 200, 999}) {
            EarlyToken x = ring(3);
            x.set(1, patience);
            x.cut(0, true);
            x.tick(7);
            x.claim(0);
            pass(x, patience - 1);
            kinds("one tick less", x, 2);
            CHECK.due("no BEACON", x.count(6), 0);
            x.tick(1);
            kinds("just so", x, 3);
            CHECK.due("a BEACON", x.count(6), 1);
            CHECK.logged(x, 0, 7 + patience, 2, 0, 0);
        }
        EarlyToken x = ring(3);
        x.cut(0, true);
        x.claim(0);
        x.tick(120);
        x.set(1, 121);
        x.tick(1);
        kinds("just so by what is told then", x, 3);
        x = ring(3);
        x.cut(0, true);
        x.claim(0);
        x.tick(120);
        x.set(1, 50);
        kinds("not at once", x, 2);
        x.tick(1);
        kinds("more", x, 3);
    }

    private static void pass(EarlyToken x, int ticks) {
        for (int left = ticks; left > 0; left -= 300) {
            x.tick(Math.min(300, left));
        }
    }

    /** "is BEST its own, and was it sent REPEAT TICKS ago (or more): it sends it again" */
    private static void repeatTicksOrMore() {
        for (int repeat : new int[] {5, 6, 20, 50}) {
            EarlyToken x = ring(3);
            x.set(2, repeat);
            x.cut(0, true);
            x.tick(60);
            x.claim(0);
            for (int times = 1; times <= 3; times++) {
                x.tick(repeat - 1);
                CHECK.due("one tick less", x.count(0), times);
                x.tick(1);
                CHECK.due("just so", x.count(0), times + 1);
            }
        }
        EarlyToken x = ring(3);
        x.set(2, 50);
        x.cut(0, true);
        x.claim(0);
        x.tick(30);
        x.set(2, 5);
        CHECK.due("not at once", x.count(0), 1);
        x.tick(1);
        CHECK.due("more", x.count(0), 2);
        x.tick(4);
        CHECK.due("4 ago", x.count(0), 2);
        x.tick(1);
        CHECK.due("5 ago", x.count(0), 3);
    }

    private static void bestOfAnotherIsNotSentAgain() {
        EarlyToken x = ring(3);
        x.set(2, 5);
        x.claim(0);
        x.tick(2);
        x.cut(0, true);
        x.cut(1, true);
        x.claim(2);
        int sent = x.count(0);
        CHECK.station(x, 1, 24, 0);
        x.tick(2);
        CHECK.due("2's came to 0: nothing", x.count(0), sent);
        x.tick(96);
        CHECK.due("0 each 5 ticks since 5, 2 since 7, 0 nothing of that", x.count(0), sent + 20 + 19);
    }

    /** "BEACONING: was its BEACON sent REPEAT TICKS ago (or more): it sends it again." */
    private static void beaconsRepeatTicksOrMore() {
        for (int repeat : new int[] {5, 20, 50}) {
            EarlyToken x = ring(3);
            x.set(1, 53);
            x.set(2, repeat);
            x.cut(0, true);
            x.claim(0);
            x.tick(53);
            CHECK.due("the first", x.count(6), 1);
            int sent = x.count(0);
            int logs = x.look(18);
            for (int times = 1; times <= 3; times++) {
                x.tick(repeat - 1);
                CHECK.due("one tick less", x.count(6), times);
                x.tick(1);
                CHECK.due("just so", x.count(6), times + 1);
                CHECK.due("sent", x.count(0), sent + times);
            }
            CHECK.due("logged once", x.look(18), logs);
        }
        EarlyToken x = ring(3);
        x.set(1, 50);
        x.set(2, 50);
        x.cut(0, true);
        x.claim(0);
        x.tick(80);
        x.set(2, 5);
        CHECK.due("not at once", x.count(6), 1);
        x.tick(1);
        CHECK.due("more", x.count(6), 2);
    }

    /** "REPEATING: was HEARD PATIENCE TICKS ago (or more): BEACONING" */
    private static void heardPatienceTicksAgoOrMore() {
        EarlyToken x = beaconing(53);
        x.cut(0, true);
        kinds("heard at 52", x, 3, 4);
        x.tick(48);
        kinds("49 ago", x, 3, 4);
        x.tick(1);
        kinds("50 ago", x, 3, 3);
        CHECK.logged(x, 0, 102, 2, 1, 0);
        x = beaconing(53);
        x.cut(0, true);
        x.set(1, 200);
        x.tick(67);
        kinds("68 ago", x, 3, 4);
        x.set(1, 50);
        kinds("not at once", x, 3, 4);
        x.tick(1);
        kinds("more", x, 3, 3);
    }

    private static void heardAnewIsHeardThen() {
        EarlyToken x = beaconing(73);
        CHECK.due("sent at 50 and 70", x.count(6), 2);
        x.cut(0, true);
        x.tick(48);
        kinds("heard at 72", x, 3, 4);
        x.tick(1);
        kinds("50 ago", x, 3, 3);
    }

    /** "is o itself: is it BEACONING, it begins TO CLAIM" */
    private static void itsOwnBeaconToOneBeaconing() {
        EarlyToken x = beaconing(70);
        x.cut(2, false);
        x.tick(5);
        kinds("on its way", x, 3, 4, 4);
        int sent = x.count(0);
        x.tick(1);
        kinds("it came at 76", x, 2, 4, 4);
        CHECK.station(x, 0, 25, 2);
        CHECK.due("its claim, and the beacon no more", x.count(0), sent + 1);
        CHECK.due("its claim", x.message(0, 0), 0);
    }

    /** "else nothing": both beacon at once, each becomes REPEATING by the other's, then its own comes. */
    private static void itsOwnBeaconToOneRepeating() {
        EarlyToken x = ring(2);
        x.set(1, 50);
        x.cut(0, true);
        x.cut(1, true);
        x.claim(0);
        x.claim(1);
        x.tick(50);
        kinds("both", x, 3, 3);
        x.cut(0, false);
        x.cut(1, false);
        x.tick(22);
        kinds("each heard the other", x, 4, 4);
        int sent = x.count(0);
        int logs = x.look(18);
        x.tick(2);
        CHECK.due("its own came", x.look(12), 0);
        kinds("nothing", x, 4, 4);
        CHECK.due("nothing is sent on", x.count(0), sent);
        CHECK.due("nothing is logged", x.look(18), logs);
        x.tick(47);
        kinds("heard at 72, not at 74", x, 4, 4);
        x.tick(1);
        kinds("heard at 72, not at 74", x, 3, 3);
    }

    private static void itsOwnBeaconToOneQuiet() {
        EarlyToken x = beaconing(70);
        x.cut(2, false);
        x.tick(5);
        goOutAndIn(x, 0);
        int sent = x.count(0);
        x.tick(1);
        CHECK.due("it came", x.look(12), 0);
        kinds("nothing", x, 0, 4, 4);
        CHECK.due("nothing is sent on", x.count(0), sent);
    }

    private static void itsOwnBeaconToOneClaiming() {
        EarlyToken x = beaconing(54);
        x.set(2, 5);
        x.cut(2, false);
        x.delay(0, 20);
        x.tick(2);
        CHECK.due("again at 55, on a long link", x.message(0, 2), 75);
        x.delay(0, 1);
        x.tick(5);
        CHECK.due("at 60 behind it", x.link(0, 2), 2);
        x.tick(17);
        kinds("both come at 79: the first", x, 3, 4, 4);
        x.tick(1);
        kinds("by the first it claims, the second is nothing", x, 2, 4, 4);
        CHECK.station(x, 0, 25, 2);
        CHECK.due("its claim alone", x.link(0, 2), 1);
    }

    /** "Else it is REPEATING (holds no token any more), HEARD is TICK, and it is sent on." */
    private static void anothersBeacon() {
        EarlyToken x = beaconing(52);
        kinds("1, who was claiming", x, 3, 4, 2);
        CHECK.station(x, 1, 24, 0);
        CHECK.due("sent on at once", x.message(0, 1), 1);
        CHECK.due("a BEACON", x.message(0, 0), 1);
        CHECK.due("due", x.message(0, 2), 54);
        CHECK.due("not counted as one that 1 sent", x.count(6), 1);
        x = new EarlyToken();
        x.set(1, 50);
        x.cut(0, true);
        x.claim(0);
        x.tick(54);
        x.cut(0, false);
        kinds("1 is quiet", x, 3, 0, 0);
        x.tick(18);
        kinds("1, who was quiet", x, 3, 4, 0);
        CHECK.logged(x, 0, 72, 3, 1, 0);
        x.tick(2);
        kinds("2, who was quiet", x, 3, 4, 4);
    }

    /** "false if it is CLAIMING, BEACONING, or OUT, or there is none such" */
    private static void claimOfWhom() {
        for (int station : new int[] {MIN, -1, 3, 8, MAX}) {
            CHECK.refused("claim(" + station + ")", () -> beaconing(54), x -> x.claim(station));
        }
        CHECK.refused("beaconing", () -> beaconing(54), x -> x.claim(0));
        CHECK.refused("claiming", () -> beaconing(49), x -> x.claim(0));
        CHECK.refused("claiming with another one's", () -> beaconing(49), x -> x.claim(1));
        CHECK.refused("out", () -> {
            EarlyToken x = beaconing(54);
            x.out(1, true);
            return x;
        }, x -> x.claim(1));
        CHECK.yes("repeating", beaconing(54).claim(1));
        EarlyToken x = ring(8);
        CHECK.yes("quiet", x.claim(7) && x.claim(0));
        x.tick(40);
        CHECK.yes("up", x.station(7, 0) == 1 && x.claim(7));
        CHECK.station(x, 7, 25, 2);
    }

    /** "one sent by a STATION comes to the next one DELAY (as told then) TICKS later" */
    private static void delayAsToldThen() {
        for (int delay : new int[] {1, 2, 20}) {
            for (int later : new int[] {1, 20}) {
                EarlyToken x = ring(2);
                x.delay(0, delay);
                x.tick(3);
                x.claim(0);
                x.delay(0, later);
                CHECK.due("due", x.message(0, 2), 3 + delay);
                if (delay > 1) {
                    x.tick(delay - 1);
                }
                kinds("not yet", x, 2, 0);
                x.tick(1);
                kinds("it came", x, 2, 2);
            }
        }
    }

    /** "but never ahead of one that was sent earlier along that LINK" */
    private static void neverAheadOfOneSentEarlier() {
        for (int delay : new int[] {1, 13, 14, 15, 20}) {
            EarlyToken x = ring(2);
            x.set(2, 5);
            x.delay(0, 19);
            x.claim(0);
            x.tick(4);
            x.delay(0, delay);
            x.tick(1);
            CHECK.due("the earlier one first", x.message(0, 2), 19);
            CHECK.due("the one of 5 then", x.message(1, 2), Math.max(19, 5 + delay));
        }
        EarlyToken x = ring(2);
        x.set(2, 5);
        x.delay(0, 19);
        x.claim(0);
        x.tick(4);
        x.delay(0, 1);
        x.cut(0, true);
        x.cut(0, false);
        x.tick(1);
        CHECK.due("one that was LOST comes no more", x.message(0, 2), 6);
    }

    private static void anotherLinkDoesNotMatter() {
        EarlyToken x = ring(3);
        x.delay(0, 20);
        x.claim(0);
        x.delay(0, 1);
        x.claim(1);
        x.claim(2);
        CHECK.due("on link 1", x.message(0, 2), 2);
        CHECK.due("on link 2", x.message(1, 2), 2);
        CHECK.due("on link 0", x.message(2, 2), 20);
    }

    private static void laterOnAQuickerLinkComesFirst() {
        EarlyToken x = ring(4);
        x.delay(0, 20);
        x.delay(1, 9);
        x.claim(0);
        x.claim(1);
        x.claim(2);
        x.tick(2);
        kinds("the one sent last came first", x, 2, 2, 2, 2);
        CHECK.due("on link 0", x.link(0, 2), 1);
        CHECK.due("on link 1", x.link(1, 2), 1);
        CHECK.due("on link 2", x.link(2, 2), 0);
        CHECK.due("on link 3", x.link(3, 2), 1);
        x.tick(7);
        CHECK.due("the one sent second came then", x.station(2, 24), 1);
        CHECK.due("on link 0", x.link(0, 2), 1);
    }

    /** "(a) MESSAGES that are due come, those sent earlier first." */
    private static void thoseSentEarlierFirst() {
        for (int first = 0; first <= 2; first += 2) {
            EarlyToken x = ring(4);
            x.claim(first);
            x.claim(2 - first);
            CHECK.due("the first", x.message(0, 1), first);
            CHECK.due("the second", x.message(1, 1), 2 - first);
            x.tick(2);
            CHECK.due("began first", x.log(1, 2), first + 1);
            CHECK.due("began then", x.log(0, 2), 3 - first);
        }
    }

    /** "or beyond 100 on their way, it is LOST" */
    private static void aHundredAreOnTheirWay() {
        EarlyToken x = ring(2);
        x.claim(0);
        x.tick(4);
        for (int i = 1; i < 99; i++) {
            x.doubled(0);
        }
        CHECK.due("99", x.look(12), 99);
        x.doubled(0);
        CHECK.due("100", x.look(12), 100);
        CHECK.due("none is LOST", x.count(1), 0);
        CHECK.yes("one more", x.doubled(0));
        CHECK.due("100", x.look(12), 100);
        CHECK.due("it is LOST", x.count(1), 1);
        CHECK.due("sent, LOST at once too", x.count(0), 103);
        CHECK.yes("one more", x.claim(0));
        CHECK.due("a claim likewise", x.count(1), 2);
        CHECK.due("100 on that link", x.link(0, 2), 100);
        CHECK.due("the hundredth", x.message(99, 0), 2);
        CHECK.due("none behind it", x.message(100, 0), -1);
        x.tick(2);
        CHECK.due("1 is up by the first, the others are gone", x.look(12), 1);
        CHECK.due("DOUBLED", x.count(2), 99);
        CHECK.due("no more is LOST", x.count(1), 2);
    }

    /** "Along one that is CUT .. it is LOST" */
    private static void alongALinkThatIsCut() {
        EarlyToken x = ring(3);
        x.cut(1, true);
        x.claim(0);
        x.tick(2);
        CHECK.due("sent by 0 and 1", x.count(0), 2);
        CHECK.due("LOST", x.count(1), 1);
        CHECK.due("nothing on its way", x.look(12), 0);
        x.cut(1, false);
        x.tick(5);
        kinds("it comes no more", x, 2, 2, 0);
        CHECK.due("LOST", x.count(1), 1);
    }

    /** "as a LINK is CUT, all that are on their way on it are LOST" */
    private static void asALinkIsCut() {
        EarlyToken x = ring(3);
        x.claim(0);
        x.tick(6);
        x.doubled(0);
        x.doubled(0);
        goOutAndIn(x, 1);
        x.claim(1);
        CHECK.due("on link 0", x.link(0, 2), 3);
        CHECK.due("on link 1", x.link(1, 2), 1);
        x.cut(0, true);
        CHECK.due("LOST", x.count(1), 3);
        CHECK.due("on link 0", x.link(0, 2), 0);
        CHECK.due("on link 1", x.link(1, 2), 1);
        x.cut(1, true);
        CHECK.due("LOST, all together", x.count(1), 4);
        CHECK.due("none is on its way", x.look(12), 0);
        x.cut(0, false);
        x.cut(0, true);
        CHECK.due("none was on it", x.count(1), 4);
        CHECK.due("they were sent all the same", x.count(0), 3 + 1 + 2 + 1);
    }

    /** "whatever comes to it is sent on along its LINK at once" */
    private static void whoIsOutSendsOnAtOnce() {
        EarlyToken x = ring(4);
        x.out(1, true);
        x.out(2, true);
        x.delay(1, 7);
        x.claim(0);
        x.tick(2);
        CHECK.due("a CLAIM", x.message(0, 0), 0);
        CHECK.due("on link 1", x.message(0, 1), 1);
        CHECK.due("due", x.message(0, 2), 9);
        x.tick(7);
        CHECK.due("on link 2", x.message(0, 1), 2);
        x.tick(2);
        kinds("it came to 3", x, 2, 0, 0, 2);
        x.tick(2);
        kinds("0 WON", x, 1, 0, 0, 2);
        x.tick(2);
        CHECK.due("a TOKEN", x.message(0, 0), 2);
        CHECK.due("on link 1", x.message(0, 1), 1);
        CHECK.due("of 0", x.message(0, 3), 0);
        CHECK.due("of its bid", x.message(0, 4), 60);
        CHECK.due("sent, by who is OUT too", x.count(0), 6);
        x = beaconing(53);
        x.out(2, true);
        x.cut(2, false);
        x.tick(1);
        CHECK.due("a BEACON", x.message(0, 0), 1);
        CHECK.due("on link 2", x.message(0, 1), 2);
        CHECK.due("of 0", x.message(0, 3), 0);
        x.cut(2, true);
        x.tick(18);
        int lost = x.count(1);
        x.tick(2);
        CHECK.due("along one that is CUT", x.count(1), lost + 1);
    }

    /** "of (b), (c) of a TICK it does nothing" */
    private static void whoIsOutDoesNothing() {
        EarlyToken x = new EarlyToken();
        x.set(1, 50);
        x.stream(1, 20, 3);
        x.cut(0, true);
        x.cut(1, true);
        x.claim(1);
        x.tick(5);
        x.out(1, true);
        int sent = x.count(0);
        x.tick(300);
        kinds("quiet", x, 0, 0, 0);
        CHECK.station(x, 1, 11, 0);
        CHECK.station(x, 1, 15, 0);
        CHECK.due("nothing is sent", x.count(0), sent);
        x.out(1, false);
        x.tick(15);
        CHECK.station(x, 1, 11, 3);
        CHECK.due("nothing is sent", x.count(0), sent);
        x.out(1, true);
        x.tick(40);
        CHECK.station(x, 1, 15, 0);
        CHECK.station(x, 1, 11, 3);
    }

    /** "Of the i-th MESSAGE on its way .. NONE if there is none such, or another what." */
    private static void messageThatIs() {
        EarlyToken x = ring(3);
        CHECK.due("none", x.message(0, 0), -1);
        x.claim(0);
        x.claim(1);
        for (int what : new int[] {MIN, -1, 5, 6, MAX}) {
            CHECK.due("another what", x.message(0, what), -1);
        }
        for (int i : new int[] {MIN, -1, 2, 100, MAX}) {
            for (int what = 0; what < 5; what++) {
                CHECK.due("none such", x.message(i, what), -1);
            }
        }
        int[] last = {0, 1, 2, 1, 60};
        for (int what = 0; what < 5; what++) {
            CHECK.due("the last one", x.message(1, what), last[what]);
        }
        EarlyToken y = beaconing(50);
        int[] beacon = {1, 0, 52, 0, 0};
        for (int what = 0; what < 5; what++) {
            CHECK.due("a BEACON", y.message(0, what), beacon[what]);
        }
    }

    /** "NONE if there is none such, or another what." */
    private static void linkThatIs() {
        EarlyToken x = ring(8);
        for (int what = 0; what < 3; what++) {
            for (int link : new int[] {MIN, -1, 8, MAX}) {
                CHECK.due("no such link", x.link(link, what), -1);
            }
            CHECK.due("the last link", x.link(7, what), what == 0 ? 2 : 0);
        }
        for (int what : new int[] {MIN, -1, 3, MAX}) {
            CHECK.due("another what", x.link(0, what), -1);
        }
    }

    private static void stationThatIs() {
        EarlyToken x = ring(5);
        for (int what = 0; what < 27; what++) {
            for (int station : new int[] {MIN, -1, 5, 7, 8, MAX}) {
                CHECK.due("no such station", x.station(station, what), -1);
            }
        }
        for (int what : new int[] {MIN, -1, 27, 28, MAX}) {
            CHECK.due("another what", x.station(4, what), -1);
        }
        CHECK.due("the last what", x.station(4, 26), 0);
    }

    /** "3 TARGET (NONE: not UP), 4 DUE less TICK (NONE likewise), 5 LATE, 6 ROUNDS (both 0 if not UP)" */
    private static void whoIsNotUp() {
        EarlyToken x = ring(2);
        for (int kind = 0; kind < 2; kind++) {
            none(x, 0);
            x.claim(0);
        }
        x.tick(20);
        x.lose();
        x.tick(60);
        CHECK.station(x, 0, 3, 60);
        CHECK.station(x, 0, 4, 60);
        CHECK.station(x, 0, 5, 1);
        CHECK.station(x, 0, 6, 5);
        x.claim(0);
        none(x, 0);
        EarlyToken y = lateOfThree();
        CHECK.station(y, 1, 5, 1);
        CHECK.station(y, 1, 6, 2);
        y.out(1, true);
        none(y, 1);
        y.out(1, false);
        none(y, 1);
        y = lateOfThree();
        y.cut(2, true);
        y.claim(0);
        y.tick(49);
        CHECK.due("claiming", y.look(15), 7);
        none(y, 1);
        y.tick(5);
        kinds("beacons, repeat", y, 3, 4, 4);
        none(y, 0);
        none(y, 1);
    }

    /** All are UP and LATE, and no token is there. */
    private static EarlyToken lateOfThree() {
        EarlyToken x = ring(3);
        x.set(1, 50);
        x.claim(0);
        x.tick(16);
        x.lose();
        x.tick(64);
        return x;
    }

    private static void none(EarlyToken x, int station) {
        CHECK.station(x, station, 3, -1);
        CHECK.station(x, station, 4, -1);
        CHECK.station(x, station, 5, 0);
        CHECK.station(x, station, 6, 0);
    }

    /** "26 whether it is OUT (1, 0)" */
    private static void outOrNot() {
        EarlyToken x = ring(3);
        x.out(1, true);
        CHECK.station(x, 0, 26, 0);
        CHECK.station(x, 1, 26, 1);
        CHECK.station(x, 2, 26, 0);
        x.out(1, false);
        CHECK.station(x, 1, 26, 0);
    }

    /** "24 whose CLAIM it goes by (UP), is BEST (CLAIMING), or whose BEACON it HEARD (REPEATING; NONE else)" */
    private static void whomItFollows() {
        EarlyToken x = ring(3);
        CHECK.station(x, 1, 24, -1);
        x.set(1, 50);
        x.bid(2, 70);
        x.cut(0, true);
        x.claim(1);
        x.tick(2);
        CHECK.station(x, 1, 24, 1);
        CHECK.station(x, 2, 24, 1);
        x.tick(2);
        CHECK.station(x, 0, 24, 0);
        x.tick(50);
        kinds("beacons, repeat", x, 4, 3, 4);
        CHECK.station(x, 1, 24, -1);
        CHECK.station(x, 2, 24, 1);
        CHECK.station(x, 0, 24, 1);
        x.cut(0, false);
        x.tick(40);
        kinds("all up", x, 1, 1, 1);
        CHECK.station(x, 2, 24, x.station(0, 24));
        x.out(2, true);
        CHECK.station(x, 2, 24, -1);
    }

    /** "The LINKS (a set) that lead to a STATION that is BEACONING" */
    private static void suspects() {
        CHECK.due("none", new EarlyToken().suspects(), 0);
        CHECK.due("claiming", beaconing(49).suspects(), 0);
        CHECK.due("beaconing: the last link leads to 0", beaconing(50).suspects(), 4);
        CHECK.due("repeating ones are none", beaconing(54).suspects(), 4);
        for (int n = 2; n <= 8; n++) {
            EarlyToken x = ring(n);
            x.set(1, 50);
            for (int i = 0; i < n; i++) {
                x.cut(i, true);
                x.claim(i);
            }
            x.tick(50);
            CHECK.due("all of them", x.suspects(), (1 << n) - 1);
        }
        for (int i = 0; i < 8; i++) {
            EarlyToken x = ring(8);
            x.set(1, 50);
            x.cut(i, true);
            x.claim(i);
            x.tick(50);
            CHECK.due("one of them", x.suspects(), 1 << (i + 7) % 8);
            x.out(i, true);
            CHECK.due("it is OUT", x.suspects(), 0);
        }
    }

    /** "and those that lead to one that is OUT just ahead of such a LINK, and on" */
    private static void suspectsRoundTheRing() {
        EarlyToken x = ring(8);
        x.set(1, 50);
        x.cut(0, true);
        x.claim(0);
        x.tick(50);
        CHECK.due("link 7", x.suspects(), 128);
        x.out(6, true);
        CHECK.due("6 is not just ahead", x.suspects(), 128);
        x.out(7, true);
        CHECK.due("7, 6 and on to link 5", x.suspects(), 128 + 64 + 32);
        for (int i = 5; i >= 2; i--) {
            x.out(i, true);
            CHECK.due("and on", x.suspects(), 256 - (1 << i - 1));
        }
        CHECK.no("two at least are IN", x.out(1, true));
    }

    /** "n TICKS (1 .. 300) .. NONE, and nothing is done, if n can't be" */
    private static void ticksOneToThreeHundred() {
        for (int n : new int[] {MIN, -300, -1, 0, 301, MAX}) {
            CHECK.none("tick(" + n + ")", () -> beaconing(54), x -> x.tick(n));
        }
        EarlyToken x = new EarlyToken();
        CHECK.due("tick(1)", x.tick(1), 1);
        CHECK.due("tick(300)", x.tick(300), 301);
    }

    /** "or it would be above 30000"; "TICK 0 .. 30000 (0 at first)" */
    private static void noTickAboveThirtyThousand() {
        EarlyToken x = new EarlyToken();
        CHECK.due("TICK", x.look(7), 0);
        CHECK.due("tick", at(29999).tick(1), 30000);
        CHECK.due("tick", at(29700).tick(300), 30000);
        CHECK.none("tick", () -> at(29999), y -> y.tick(2));
        CHECK.none("tick", () -> at(29701), y -> y.tick(300));
        CHECK.none("tick", () -> at(30000), y -> y.tick(1));
        CHECK.none("tick", () -> at(30000), y -> y.tick(300));
    }

    private static EarlyToken at(int tick) {
        EarlyToken x = new EarlyToken();
        x.claim(0);
        pass(x, tick);
        CHECK.due("TICK", x.look(7), tick);
        return x;
    }
}
