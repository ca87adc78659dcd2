/**
 * The token, streams and frames, sentence by sentence of the part "Terms" 2 and 3 and of the promises 14, 15, 17, 18
 * and 27: what is just early, just late, just enough, one more, at the same TICK.
 */
public final class EdgesOfTokensTest {
    private static final Check CHECK = new Check("EdgesOfTokensTest");
    private static final int MIN = Integer.MIN_VALUE;
    private static final int MAX = Integer.MAX_VALUE;

    public static void main(String[] args) {
        letGoLessThanLatencyAgo();
        latencyAsItIsThen();
        whoWonLetGoThen();
        whoHoldsOneLongSince();
        doubledChangesNothingElse();
        strayInAllOtherCases();
        earlyOneTickAheadOfDue();
        lateOrNot();
        leftOfItsShareIsShare();
        whoHoldsNoneHasNothingLeft();
        restLessThanShare();
        noShareNoRest();
        restGoesFirst();
        restAsOftenAsTheTokenComes();
        leftAboveZero();
        roundsThreeOrMore();
        limitLessThanLeft();
        firstOfTheGreatestPriority();
        priorityWhoseLimitIsNotLess();
        asManyTicksAsItIsLong();
        leftIsLessByFramesAlone();
        leftZeroAtLeast();
        noLinkFromItToIsCutThen();
        linksBehindToDoNotMatter();
        frameToOneThatIsOutAtItsEnd();
        roundTheEndOfTheRing();
        waitedTillThen();
        tickAMultipleOfPeriod();
        missedIfRestIsAboveZero();
        missedAsItEnds();
        sentAnewInTheSameHold();
        toldAnewInTheSameHold();
        dueIsTick();
        dueWhileItHolds();
        roundTrips();
        roundTripsSinceItWon();
        firstMessagesThenStreamsThenTurns();
        stationsByNumber();
        whoGoesOutHoldsNothing();
        loseHowMany();
        loseWhatIsHeld();
        doubleAtOneThatIsUp();
        queuedThatIs();
        meanThatIs();
        CHECK.end();
    }

    /** Two stations: 0 won at 4, and the token comes to it at 8, 12, 16 .., to 1 at 6, 10, 14 .. */
    private static EarlyToken two() {
        EarlyToken x = new EarlyToken();
        x.begin(2);
        x.claim(0);
        return x;
    }

    /** Like two(), but from 12 on, when 0 has let it go, no token is there; DUE of 0 is 72 then. */
    private static EarlyToken gone() {
        EarlyToken x = two();
        x.tick(12);
        CHECK.due("one is lost", x.lose(), 1);
        CHECK.station(x, 0, 6, 3);
        CHECK.station(x, 0, 4, 60);
        return x;
    }

    /** Such a ring, as a token has just come to 0 again. */
    private static void comesAt(EarlyToken x, int tick) {
        x.tick(tick - 2 - x.look(7));
        CHECK.yes("doubled", x.doubled(1));
        x.tick(2);
        CHECK.due("TICK", x.look(7), tick);
    }

    /** "or has it let one go less than LATENCY TICKS ago: the TOKEN is gone, DOUBLED" */
    private static void letGoLessThanLatencyAgo() {
        for (int ago = 3; ago <= 5; ago++) {
            EarlyToken x = gone();
            comesAt(x, 12 + ago);
            CHECK.due("DOUBLED, " + ago + " ago", x.count(2), ago < 4 ? 1 : 0);
            CHECK.station(x, 0, 6, ago < 4 ? 3 : 4);
            CHECK.due("TOKENS", x.look(13), ago < 4 ? 0 : 1);
            CHECK.due("lines of the log", x.look(18), ago < 4 ? 5 : 4);
        }
    }

    private static void latencyAsItIsThen() {
        for (int delay = 1; delay <= 3; delay++) {
            EarlyToken x = gone();
            x.delay(0, delay);
            comesAt(x, 16);
            CHECK.due("LATENCY " + (2 + delay), x.count(2), delay == 3 ? 1 : 0);
        }
    }

    private static void whoWonLetGoThen() {
        for (int delay = 2; delay <= 3; delay++) {
            EarlyToken x = two();
            x.tick(7);
            x.delay(0, delay);
            x.tick(1);
            CHECK.due("won 4 ago", x.count(2), delay - 2);
            CHECK.station(x, 0, 6, delay == 3 ? 1 : 2);
        }
    }

    /** "does it hold one" */
    private static void whoHoldsOneLongSince() {
        EarlyToken x = gone();
        x.share(0, 40);
        x.stream(0, 20, 40);
        comesAt(x, 20);
        x.tick(20);
        CHECK.station(x, 0, 7, 1);
        comesAt(x, 43);
        CHECK.due("DOUBLED", x.count(2), 1);
        CHECK.logged(x, 0, 43, 4, 0, 0);
        CHECK.station(x, 0, 7, 1);
    }

    private static void doubledChangesNothingElse() {
        EarlyToken x = gone();
        comesAt(x, 15);
        CHECK.station(x, 0, 4, 57);
        CHECK.station(x, 0, 5, 0);
        CHECK.station(x, 0, 7, 0);
        CHECK.station(x, 0, 21, 1);
        CHECK.due("STRAY", x.count(3), 0);
        CHECK.logged(x, 0, 15, 4, 0, 0);
        comesAt(x, 17);
        CHECK.due("it was not let go at 15", x.count(2), 1);
        CHECK.station(x, 0, 6, 4);
        CHECK.station(x, 0, 22, 9);
    }

    /** "In all other cases the TOKEN is gone, STRAY (counted)." */
    private static void strayInAllOtherCases() {
        EarlyToken x = two();
        x.tick(14);
        x.claim(1);
        x.cut(1, true);
        x.tick(1);
        x.doubled(0);
        x.tick(1);
        CHECK.due("the one of 14, that 1 let go, is LOST", x.count(1), 2);
        x.tick(1);
        CHECK.due("to one that claims with its own", x.count(3), 1);
        CHECK.logged(x, 0, 17, 5, 1, 0);
        x.tick(198);
        CHECK.due("it beacons", x.station(1, 0), 3);
        CHECK.due("0 is late and claims", x.station(0, 0), 2);
        strayToOneBeaconing();
        strayToOneRepeating();
        strayToOneQuiet();
    }

    private static EarlyToken three() {
        EarlyToken x = new EarlyToken();
        for (int i = 0; i < 3; i++) {
            x.bid(i, 500);
        }
        x.set(1, 50);
        x.claim(0);
        x.tick(20);
        x.cut(1, true);
        x.cut(2, true);
        x.lose();
        x.claim(0);
        return x;
    }

    private static void strayToOneBeaconing() {
        EarlyToken x = three();
        x.tick(50);
        CHECK.station(x, 0, 0, 3);
        x.cut(2, false);
        CHECK.yes("2 is up yet", x.doubled(2));
        x.tick(2);
        CHECK.due("STRAY", x.count(3), 1);
        CHECK.logged(x, 0, 72, 5, 0, 0);
        CHECK.logged(x, 1, 72, 3, 1, 0);
        CHECK.station(x, 0, 0, 3);
    }

    private static void strayToOneRepeating() {
        EarlyToken x = three();
        x.tick(53);
        CHECK.station(x, 1, 0, 4);
        x.out(0, true);
        x.cut(2, false);
        CHECK.yes("2 is up yet", x.doubled(2));
        x.tick(4);
        CHECK.due("STRAY", x.count(3), 1);
        CHECK.logged(x, 0, 77, 5, 1, 0);
        CHECK.station(x, 1, 0, 4);
        CHECK.due("it is gone", x.look(12), 0);
    }

    private static void strayToOneQuiet() {
        EarlyToken x = new EarlyToken();
        x.claim(0);
        x.tick(13);
        x.out(1, true);
        x.out(1, false);
        x.tick(1);
        CHECK.due("STRAY", x.count(3), 1);
        CHECK.logged(x, 0, 14, 5, 1, 0);
        CHECK.station(x, 1, 0, 0);
        CHECK.due("it is gone", x.look(13), 0);
    }

    /** "is LATE 0: it is EARLY: LEFT is DUE less TICK, DUE is TICK and TARGET" */
    private static void earlyOneTickAheadOfDue() {
        for (int tick = 70; tick <= 72; tick++) {
            EarlyToken x = sendingAt(tick);
            CHECK.station(x, 0, 8, 72 - tick);
            CHECK.station(x, 0, 5, 0);
            CHECK.station(x, 0, 4, 60);
            CHECK.station(x, 0, 6, 4);
        }
    }

    /** A ring where the token has just come to 0, which has something to send. */
    private static EarlyToken sendingAt(int tick) {
        EarlyToken x = gone();
        x.share(0, 5);
        x.stream(0, 50, 5);
        comesAt(x, tick);
        CHECK.station(x, 0, 7, 1);
        CHECK.station(x, 0, 10, 5);
        return x;
    }

    /** "is LATE 1: LATE is 0, LEFT is 0" */
    private static void lateOrNot() {
        EarlyToken x = sendingAt(72);
        CHECK.station(x, 0, 5, 0);
        CHECK.station(x, 0, 4, 60);
        x = sendingAt(73);
        CHECK.station(x, 0, 8, 0);
        CHECK.station(x, 0, 5, 0);
        CHECK.station(x, 0, 4, 59);
        CHECK.station(x, 0, 6, 4);
        x = gone();
        x.tick(60);
        CHECK.station(x, 0, 5, 1);
        CHECK.station(x, 0, 4, 60);
    }

    /** "what is left of its SHARE is SHARE" */
    private static void leftOfItsShareIsShare() {
        EarlyToken x = gone();
        x.share(0, 7);
        x.stream(0, 50, 5);
        comesAt(x, 60);
        CHECK.station(x, 0, 9, 2);
        x.share(0, 30);
        x.tick(1);
        CHECK.station(x, 0, 9, 2);
    }

    /** "8 LEFT (0: it holds none), 9 what is left of its SHARE (likewise), 10 .. (0: nothing)" */
    private static void whoHoldsNoneHasNothingLeft() {
        EarlyToken x = gone();
        x.share(0, 7);
        x.stream(0, 50, 5);
        comesAt(x, 60);
        x.tick(4);
        CHECK.station(x, 0, 7, 1);
        CHECK.station(x, 0, 8, 12);
        CHECK.station(x, 0, 9, 2);
        CHECK.station(x, 0, 10, 1);
        x.tick(1);
        for (int what = 7; what <= 10; what++) {
            CHECK.station(x, 0, what, 0);
        }
        CHECK.due("it let it go", x.look(13), 1);
    }

    /** "as much of it as both are is sent, as one frame (the SHARE less by it)" */
    private static void restLessThanShare() {
        for (int share = 4; share <= 6; share++) {
            EarlyToken x = gone();
            x.share(0, share);
            x.stream(0, 50, 5);
            comesAt(x, 60);
            int sent = Math.min(share, 5);
            CHECK.station(x, 0, 10, sent);
            CHECK.station(x, 0, 9, share - sent);
            CHECK.station(x, 0, 11, 5);
            x.tick(sent);
            CHECK.station(x, 0, 11, 5 - sent);
            CHECK.station(x, 0, 16, share < 5 ? 0 : 1);
            CHECK.station(x, 0, 7, 0);
            CHECK.booked(x, 0, 0, 60, sent, sent, 0);
        }
    }

    private static void noShareNoRest() {
        EarlyToken x = gone();
        x.stream(0, 50, 5);
        comesAt(x, 60);
        CHECK.station(x, 0, 7, 0);
        CHECK.station(x, 0, 11, 5);
        CHECK.booked(x, 0, 0, 60, 0, 0, 0);
        x = gone();
        x.share(0, 5);
        comesAt(x, 60);
        CHECK.station(x, 0, 7, 0);
        CHECK.booked(x, 0, 0, 60, 0, 0, 0);
    }

    /** "Else .. the first frame in its LINE" */
    private static void restGoesFirst() {
        EarlyToken x = gone();
        x.share(0, 5);
        x.stream(0, 50, 5);
        x.frame(0, 1, 3, 3);
        comesAt(x, 60);
        CHECK.station(x, 0, 10, 5);
        x.tick(5);
        CHECK.station(x, 0, 11, 0);
        CHECK.station(x, 0, 10, 3);
        CHECK.station(x, 0, 8, 12);
        x.tick(3);
        CHECK.station(x, 0, 17, 1);
        CHECK.booked(x, 0, 0, 60, 8, 5, 3);
        CHECK.due("TICKS in which something was sent", x.count(7), 8);
    }

    private static void restAsOftenAsTheTokenComes() {
        EarlyToken x = two();
        x.share(0, 2);
        x.stream(0, 20, 5);
        x.tick(21);
        CHECK.station(x, 0, 11, 5);
        x.tick(1);
        CHECK.station(x, 0, 11, 3);
        x.tick(6);
        CHECK.station(x, 0, 11, 1);
        x.tick(4);
        CHECK.station(x, 0, 10, 1);
        x.tick(1);
        CHECK.station(x, 0, 11, 0);
        CHECK.station(x, 0, 16, 1);
    }

    /** "is LEFT above 0" */
    private static void leftAboveZero() {
        for (int tick = 71; tick <= 73; tick++) {
            EarlyToken x = gone();
            x.frame(0, 1, 1, 1);
            comesAt(x, tick);
            CHECK.station(x, 0, 7, tick == 71 ? 1 : 0);
            CHECK.station(x, 0, 10, tick == 71 ? 1 : 0);
            x.tick(1);
            CHECK.station(x, 0, 17, tick == 71 ? 1 : 0);
            CHECK.station(x, 0, 12, tick == 71 ? 0 : 1);
        }
    }

    /** "and are ROUNDS 3 or more" */
    private static void roundsThreeOrMore() {
        EarlyToken x = two();
        x.frame(0, 1, 1, 1);
        x.frame(0, 1, 1, 1);
        x.tick(8);
        CHECK.station(x, 0, 6, 2);
        CHECK.station(x, 0, 7, 0);
        CHECK.station(x, 0, 12, 2);
        x.tick(4);
        CHECK.station(x, 0, 6, 3);
        CHECK.station(x, 0, 7, 1);
        x = two();
        x.tick(13);
        x.frame(0, 1, 1, 1);
        x.tick(3);
        CHECK.station(x, 0, 6, 4);
        CHECK.station(x, 0, 7, 1);
    }

    /** "of which LIMIT is less than LEFT" */
    private static void limitLessThanLeft() {
        for (int priority = 1; priority <= 3; priority++) {
            for (int left = 9; left <= 11; left++) {
                EarlyToken x = gone();
                for (int other = 1; other <= 3; other++) {
                    x.set(2 + other, other == priority ? 10 : 500);
                }
                x.frame(0, 1, priority, 2);
                comesAt(x, 72 - left);
                CHECK.station(x, 0, 10, left > 10 ? 2 : 0);
            }
        }
        EarlyToken x = gone();
        x.set(3, 500);
        x.frame(0, 1, 1, 1);
        comesAt(x, 20);
        CHECK.station(x, 0, 7, 0);
    }

    /** "the first frame in its LINE of the greatest PRIORITY" */
    private static void firstOfTheGreatestPriority() {
        EarlyToken x = gone();
        int[] priorities = {1, 2, 3, 3, 2, 1};
        for (int i = 0; i < priorities.length; i++) {
            x.frame(0, 1, priorities[i], i + 1);
        }
        comesAt(x, 20);
        int[] order = {3, 4, 2, 5, 1, 6};
        for (int i = 0; i < order.length; i++) {
            CHECK.station(x, 0, 10, order[i]);
            CHECK.station(x, 0, 12, 6 - i);
            x.tick(order[i]);
        }
        CHECK.station(x, 0, 7, 0);
        CHECK.station(x, 0, 17, 6);
    }

    private static void priorityWhoseLimitIsNotLess() {
        EarlyToken x = gone();
        x.set(5, 10);
        x.frame(0, 1, 1, 1);
        x.frame(0, 1, 3, 2);
        x.frame(0, 1, 3, 5);
        comesAt(x, 61);
        CHECK.station(x, 0, 8, 11);
        CHECK.station(x, 0, 10, 2);
        x.tick(2);
        CHECK.station(x, 0, 8, 9);
        CHECK.station(x, 0, 10, 1);
        x.tick(1);
        CHECK.station(x, 0, 7, 0);
        CHECK.station(x, 0, 12, 1);
        CHECK.due("the long one is left", x.queued(0, 0, 2), 5);
    }

    /** "What is sent takes as many TICKS as it is long" */
    private static void asManyTicksAsItIsLong() {
        for (int length : new int[] {1, 2, 10, 50}) {
            EarlyToken x = gone();
            x.set(0, 50);
            x.frame(0, 1, 1, length);
            comesAt(x, 16);
            CHECK.station(x, 0, 10, length);
            if (length > 1) {
                x.tick(length - 1);
            }
            CHECK.station(x, 0, 10, 1);
            CHECK.station(x, 0, 17, 0);
            x.tick(1);
            CHECK.station(x, 0, 17, 1);
            CHECK.booked(x, 0, 0, 16, length, 0, length);
        }
    }

    /** "each TICK of a frame out of the LINE LEFT is one less" */
    private static void leftIsLessByFramesAlone() {
        EarlyToken x = gone();
        x.share(0, 5);
        x.stream(0, 50, 5);
        x.frame(0, 1, 1, 3);
        comesAt(x, 60);
        for (int i = 0; i < 8; i++) {
            CHECK.station(x, 0, 8, i < 5 ? 12 : 17 - i);
            x.tick(1);
        }
    }

    /** "(0 at least)" */
    private static void leftZeroAtLeast() {
        EarlyToken x = gone();
        x.frame(0, 1, 1, 4);
        x.frame(0, 1, 1, 1);
        comesAt(x, 70);
        int[] left = {2, 1, 0, 0};
        for (int i = 0; i < 4; i++) {
            CHECK.station(x, 0, 8, left[i]);
            CHECK.station(x, 0, 10, 4 - i);
            x.tick(1);
        }
        CHECK.station(x, 0, 17, 1);
        CHECK.station(x, 0, 7, 0);
        CHECK.station(x, 0, 12, 1);
    }

    /** "the frame is DELIVERED, if no LINK from it to TO is CUT then, else LOST" */
    private static void noLinkFromItToIsCutThen() {
        for (int link = 0; link < 2; link++) {
            EarlyToken x = four();
            x.frame(0, 2, 1, 5);
            x.tick(5);
            CHECK.station(x, 0, 10, 1);
            x.cut(link, true);
            x.tick(1);
            CHECK.station(x, 0, 17, 0);
            CHECK.station(x, 0, 18, 1);
            CHECK.station(x, 0, 12, 0);
            CHECK.station(x, 0, 19, 0);
            CHECK.station(x, 0, 20, 0);
            x = four();
            x.cut(link, true);
            x.frame(0, 2, 1, 5);
            x.tick(5);
            x.cut(link, false);
            x.tick(1);
            CHECK.station(x, 0, 17, 1);
            CHECK.station(x, 0, 18, 0);
        }
    }

    /** Four stations at 23; the token comes to 0 at 24, for the third time. */
    private static EarlyToken four() {
        EarlyToken x = new EarlyToken();
        x.begin(4);
        x.claim(0);
        x.tick(23);
        CHECK.due("on its way to 0", x.message(0, 1), 3);
        x.tick(1);
        CHECK.station(x, 0, 6, 3);
        x.lose();
        x.tick(8);
        x.doubled(3);
        x.tick(1);
        return x;
    }

    private static void linksBehindToDoNotMatter() {
        EarlyToken x = four();
        x.frame(0, 2, 1, 5);
        x.tick(5);
        x.cut(2, true);
        x.cut(3, true);
        x.tick(1);
        CHECK.station(x, 0, 17, 1);
        CHECK.station(x, 0, 18, 0);
    }

    /** "a frame TO it is LOST at its end" */
    private static void frameToOneThatIsOutAtItsEnd() {
        EarlyToken x = four();
        x.frame(0, 2, 1, 5);
        x.tick(5);
        x.out(2, true);
        x.tick(1);
        CHECK.station(x, 0, 17, 0);
        CHECK.station(x, 0, 18, 1);
        x = four();
        x.out(2, true);
        CHECK.due("it can come", x.frame(0, 2, 1, 5), 1);
        x.tick(5);
        x.out(2, false);
        x.tick(1);
        CHECK.station(x, 0, 17, 1);
        CHECK.station(x, 0, 18, 0);
        x = four();
        x.out(1, true);
        x.frame(0, 2, 1, 5);
        x.tick(6);
        CHECK.station(x, 0, 17, 1);
        CHECK.due("no MESSAGE is LOST by that", x.count(1), 0);
    }

    private static void roundTheEndOfTheRing() {
        int[] delays = {3 + 5, 3 + 5 + 7, 0, 3};
        for (int to = 0; to < 4; to++) {
            EarlyToken x = new EarlyToken();
            x.begin(4);
            x.delay(2, 3);
            x.delay(3, 5);
            x.delay(0, 7);
            x.claim(0);
            x.tick(60);
            CHECK.due("a frame", x.frame(2, to, 1, 4), to == 2 ? -1 : 1);
            x.tick(30);
            int line = 0;
            while (line < 10 && x.book(line, 4) == 0) {
                line++;
            }
            CHECK.station(x, 2, 19, to == 2 ? 0 : x.book(line, 1) + 4 - 60 + delays[to]);
        }
    }

    /** "it has waited from the TICK at which it came into the LINE till then and the DELAYS of these LINKS" */
    private static void waitedTillThen() {
        EarlyToken x = gone();
        x.frame(0, 1, 1, 4);
        comesAt(x, 20);
        x.frame(0, 1, 1, 1);
        x.tick(5);
        CHECK.station(x, 0, 17, 2);
        CHECK.station(x, 0, 19, 12 + 2 + 5 + 2);
        CHECK.station(x, 0, 20, 14);
        x = gone();
        x.frame(0, 1, 1, 4);
        comesAt(x, 20);
        x.tick(3);
        x.delay(0, 9);
        x.tick(1);
        CHECK.station(x, 0, 19, 12 + 9);
    }

    /** "is TICK a multiple of PERIOD" */
    private static void tickAMultipleOfPeriod() {
        for (int period : new int[] {20, 21, 100, 999}) {
            EarlyToken x = new EarlyToken();
            x.tick(5);
            x.stream(1, period, 7);
            CHECK.station(x, 1, 11, 0);
            pass(x, period - 6);
            CHECK.station(x, 1, 11, 0);
            x.tick(1);
            CHECK.station(x, 1, 11, 7);
            CHECK.station(x, 1, 15, 0);
            pass(x, period - 1);
            CHECK.station(x, 1, 15, 0);
            x.tick(1);
            CHECK.station(x, 1, 15, 1);
            CHECK.station(x, 1, 11, 7);
        }
        EarlyToken x = new EarlyToken();
        x.tick(20);
        x.stream(0, 20, 7);
        CHECK.station(x, 0, 11, 0);
        x.tick(19);
        CHECK.station(x, 0, 11, 0);
        x.tick(1);
        CHECK.station(x, 0, 11, 7);
    }

    private static void pass(EarlyToken x, int ticks) {
        for (int left = ticks; left > 0; left -= 300) {
            x.tick(Math.min(300, left));
        }
    }

    /** "is REST above 0: MISSED (counted; that rest is gone ..)" */
    private static void missedIfRestIsAboveZero() {
        for (int share = 4; share <= 5; share++) {
            EarlyToken x = gone();
            x.share(0, share);
            x.stream(0, 50, 5);
            comesAt(x, 60);
            x.tick(6);
            x.lose();
            x.tick(33);
            CHECK.station(x, 0, 11, 5 - share);
            x.tick(1);
            CHECK.station(x, 0, 15, 5 - share);
            CHECK.station(x, 0, 11, 5);
            CHECK.due("MISSED", x.log(0, 1) == 6 && x.log(0, 2) == 0 && x.log(0, 3) == 1 ? 1 : 0, 5 - share);
        }
    }

    /** "and what is sent of it just then counts for nothing in the end" */
    private static void missedAsItEnds() {
        for (int length = 19; length <= 21; length++) {
            EarlyToken x = two();
            x.share(0, 30);
            x.stream(0, 20, length);
            x.tick(39);
            CHECK.station(x, 0, 16, length == 19 ? 1 : 0);
            CHECK.station(x, 0, 11, length == 19 ? 0 : length);
            x.tick(1);
            CHECK.station(x, 0, 15, length == 19 ? 0 : 1);
            CHECK.station(x, 0, 16, length == 19 ? 1 : 0);
            CHECK.station(x, 0, 11, length);
        }
        EarlyToken x = two();
        x.share(0, 30);
        x.stream(0, 20, 21);
        x.tick(41);
        CHECK.station(x, 0, 11, 21);
        CHECK.station(x, 0, 16, 0);
        CHECK.station(x, 0, 15, 1);
        CHECK.due("its TICKS were TICKS", x.count(7), 21);
    }

    /** A new REST comes while the old one is sent: what is left of the SHARE is sent of it, in the same hold. */
    private static void sentAnewInTheSameHold() {
        EarlyToken x = two();
        x.share(0, 30);
        x.stream(0, 20, 21);
        x.tick(41);
        CHECK.station(x, 0, 7, 1);
        CHECK.station(x, 0, 10, 9);
        CHECK.station(x, 0, 9, 0);
        x.tick(9);
        CHECK.station(x, 0, 11, 12);
        CHECK.booked(x, 0, 0, 20, 30, 30, 0);
    }

    /** "REST is 0, what is sent of it just then counts for nothing in the end" */
    private static void toldAnewInTheSameHold() {
        EarlyToken x = two();
        x.share(0, 30);
        x.stream(0, 20, 15);
        x.tick(30);
        x.stream(0, 34, 5);
        CHECK.station(x, 0, 11, 0);
        CHECK.station(x, 0, 10, 5);
        x.tick(4);
        CHECK.station(x, 0, 11, 5);
        x.tick(1);
        CHECK.station(x, 0, 16, 0);
        CHECK.station(x, 0, 11, 5);
        CHECK.station(x, 0, 10, 5);
        CHECK.station(x, 0, 15, 0);
        x.tick(5);
        CHECK.station(x, 0, 16, 1);
        CHECK.booked(x, 0, 0, 20, 20, 20, 0);
    }

    /** "UP: is DUE TICK: LATE is one more, DUE is TARGET more; was LATE 1: it begins TO CLAIM." */
    private static void dueIsTick() {
        EarlyToken x = gone();
        x.tick(59);
        CHECK.station(x, 0, 4, 1);
        CHECK.station(x, 0, 5, 0);
        x.tick(1);
        CHECK.station(x, 0, 4, 60);
        CHECK.station(x, 0, 5, 1);
        CHECK.station(x, 0, 0, 1);
        x.cut(1, true);
        x.tick(59);
        CHECK.station(x, 0, 4, 1);
        CHECK.station(x, 0, 5, 1);
        CHECK.station(x, 0, 0, 1);
        x.tick(1);
        CHECK.station(x, 0, 0, 2);
        CHECK.logged(x, 0, 132, 0, 0, 60);
    }

    /** "(holding or not)": by a TARGET of 20 what a SHARE of 99 lets it send takes too long. */
    private static void dueWhileItHolds() {
        EarlyToken x = new EarlyToken();
        x.begin(2);
        x.bid(0, 20);
        x.claim(0);
        x.bid(0, 500);
        x.bid(1, 500);
        x.share(0, 99);
        x.stream(0, 100, 99);
        x.tick(101);
        x.cut(1, true);
        CHECK.station(x, 0, 3, 20);
        CHECK.station(x, 0, 7, 1);
        x.tick(18);
        CHECK.station(x, 0, 5, 0);
        x.tick(1);
        CHECK.station(x, 0, 5, 1);
        CHECK.station(x, 0, 7, 1);
        CHECK.station(x, 0, 10, 79);
        x.tick(19);
        CHECK.station(x, 0, 7, 1);
        x.tick(1);
        CHECK.station(x, 0, 0, 2);
        CHECK.station(x, 0, 7, 0);
        CHECK.station(x, 0, 11, 99);
        CHECK.logged(x, 0, 140, 0, 0, 500);
    }

    /** "TICKS from one coming of the TOKEN that it held (ROUNDS 2 or more) to the next" */
    private static void roundTrips() {
        EarlyToken x = two();
        x.tick(11);
        CHECK.station(x, 0, 6, 2);
        CHECK.station(x, 0, 21, 0);
        CHECK.station(x, 0, 22, 0);
        CHECK.station(x, 0, 23, 0);
        CHECK.due("none", x.mean(0), -1);
        CHECK.due("none", x.look(22), 0);
        x.tick(1);
        CHECK.station(x, 0, 21, 1);
        CHECK.station(x, 0, 22, 4);
        CHECK.station(x, 0, 23, 4);
        CHECK.due("mean", x.mean(0), 4000);
        CHECK.due("the longest", x.look(22), 4);
        x.lose();
        comesAt(x, 15);
        CHECK.station(x, 0, 21, 1);
        comesAt(x, 19);
        CHECK.station(x, 0, 21, 2);
        CHECK.station(x, 0, 22, 11);
        CHECK.station(x, 0, 23, 7);
        CHECK.due("mean", x.mean(0), 5500);
        x.tick(4);
        CHECK.station(x, 0, 22, 15);
        CHECK.station(x, 0, 23, 7);
        x.tick(12);
        CHECK.station(x, 0, 21, 6);
        CHECK.station(x, 0, 22, 27);
        CHECK.due("mean", x.mean(0), 4500);
        x.tick(4);
        CHECK.due("downwards: 31 by 7", x.mean(0), 4428);
    }

    /** "since the CLAIM by which it goes WON" */
    private static void roundTripsSinceItWon() {
        EarlyToken x = two();
        x.tick(13);
        x.claim(0);
        x.tick(4);
        CHECK.station(x, 0, 0, 1);
        for (int what = 21; what <= 23; what++) {
            CHECK.station(x, 0, what, 0);
        }
        x.tick(4);
        CHECK.station(x, 0, 6, 2);
        CHECK.station(x, 0, 21, 0);
        x.tick(4);
        CHECK.station(x, 0, 21, 1);
        CHECK.station(x, 0, 22, 4);
    }

    /** "(a) MESSAGES that are due come .. (b) STATIONS by number with a STREAM .. (c) STATIONS by number" */
    private static void firstMessagesThenStreamsThenTurns() {
        EarlyToken x = new EarlyToken();
        x.stream(2, 20, 3);
        x.tick(38);
        x.claim(0);
        x.tick(2);
        CHECK.logged(x, 1, 40, 0, 1, 60);
        CHECK.logged(x, 0, 40, 6, 2, 3);
        x = new EarlyToken();
        x.set(1, 50);
        x.stream(2, 25, 7);
        x.cut(0, true);
        x.claim(0);
        x.tick(50);
        CHECK.logged(x, 1, 50, 6, 2, 7);
        CHECK.logged(x, 0, 50, 2, 0, 0);
        x = two();
        x.share(0, 4);
        x.stream(0, 20, 4);
        x.tick(20);
        CHECK.station(x, 0, 7, 1);
        CHECK.station(x, 0, 10, 4);
    }

    private static void stationsByNumber() {
        EarlyToken x = new EarlyToken();
        x.begin(8);
        x.set(1, 50);
        for (int i = 7; i >= 0; i--) {
            x.stream(i, 25, 1 + i);
            x.cut(i, true);
            x.claim(i);
        }
        x.tick(50);
        for (int i = 0; i < 8; i++) {
            CHECK.logged(x, 7 - i, 50, 2, i, 0);
            CHECK.logged(x, 15 - i, 50, 6, i, 1 + i);
        }
    }

    /** "it is QUIET and holds nothing" */
    private static void whoGoesOutHoldsNothing() {
        EarlyToken x = new EarlyToken();
        x.claim(0);
        x.tick(13);
        x.frame(0, 1, 1, 3);
        x.tick(6);
        CHECK.station(x, 0, 10, 2);
        int lines = x.look(21);
        x.out(0, true);
        for (int what = 7; what <= 10; what++) {
            CHECK.station(x, 0, what, 0);
        }
        CHECK.due("no TOKEN", x.look(13), 0);
        x.out(0, false);
        x.tick(9);
        CHECK.station(x, 0, 17, 0);
        CHECK.station(x, 0, 18, 0);
        CHECK.station(x, 0, 12, 1);
        CHECK.due("one TICK of it", x.count(7), 1);
        CHECK.due("it was not let go", x.look(21), lines);
    }

    /** "TO LOSE: how many TOKENS." */
    private static void loseHowMany() {
        CHECK.due("none", new EarlyToken().lose(), 0);
        CHECK.unchanged("lose of none", () -> {
            EarlyToken x = two();
            x.tick(3);
            return x;
        }, x -> x.lose());
        EarlyToken x = two();
        x.tick(4);
        CHECK.due("one", x.lose(), 1);
        CHECK.due("none is left", x.lose(), 0);
        x.doubled(0);
        x.doubled(0);
        CHECK.due("two", x.lose(), 2);
        CHECK.due("no MESSAGE is LOST by that", x.count(1), 0);
        x.claim(0);
        x.doubled(1);
        CHECK.due("a CLAIM is none", x.lose(), 0);
        CHECK.due("it is on its way", x.look(12), 1);
    }

    /** "all TOKENS are gone, held ones too (what is sent then is not sent)" */
    private static void loseWhatIsHeld() {
        EarlyToken x = gone();
        x.frame(0, 1, 1, 3);
        comesAt(x, 20);
        x.doubled(1);
        x.tick(1);
        x.doubled(0);
        CHECK.due("TOKENS", x.look(13), 3);
        int lines = x.look(21);
        CHECK.due("one held, two on their way", x.lose(), 3);
        CHECK.due("TOKENS", x.look(13), 0);
        for (int what = 7; what <= 10; what++) {
            CHECK.station(x, 0, what, 0);
        }
        CHECK.station(x, 0, 0, 1);
        CHECK.station(x, 0, 6, 4);
        x.tick(9);
        CHECK.station(x, 0, 17, 0);
        CHECK.station(x, 0, 18, 0);
        CHECK.station(x, 0, 12, 1);
        CHECK.due("one TICK of it", x.count(7), 1);
        CHECK.due("it was not let go", x.look(21), lines);
    }

    /** "TO DOUBLE: true; false if it is not UP, or there is none such." */
    private static void doubleAtOneThatIsUp() {
        for (int station : new int[] {MIN, -1, 2, 8, MAX}) {
            CHECK.refused("doubled(" + station + ")", EdgesOfTokensTest::gone, x -> x.doubled(station));
        }
        CHECK.refused("quiet", EarlyToken::new, x -> x.doubled(0));
        CHECK.refused("claiming", EdgesOfTokensTest::three, x -> x.doubled(0));
        CHECK.refused("beaconing", () -> {
            EarlyToken x = three();
            x.tick(50);
            return x;
        }, x -> x.doubled(0));
        CHECK.refused("repeating", () -> {
            EarlyToken x = three();
            x.tick(53);
            return x;
        }, x -> x.doubled(1));
        CHECK.refused("out", () -> {
            EarlyToken x = three();
            x.out(2, true);
            return x;
        }, x -> x.doubled(2));
        EarlyToken x = gone();
        x.frame(0, 1, 1, 3);
        comesAt(x, 20);
        CHECK.yes("one that holds", x.doubled(0));
        CHECK.station(x, 0, 7, 1);
        CHECK.station(x, 0, 10, 3);
        CHECK.due("two", x.look(13), 2);
        CHECK.due("sent", x.count(0), 2 + 5 + 2);
    }

    /** "Of the i-th frame in a LINE .. NONE if there is none such, or another what." */
    private static void queuedThatIs() {
        EarlyToken x = new EarlyToken();
        CHECK.due("none", x.queued(0, 0, 0), -1);
        x.tick(7);
        x.frame(2, 1, 3, 9);
        x.frame(2, 0, 2, 4);
        int[][] want = {{1, 3, 9, 7}, {0, 2, 4, 7}};
        for (int what = 0; what < 4; what++) {
            CHECK.due("the first", x.queued(2, 0, what), want[0][what]);
            CHECK.due("the second", x.queued(2, 1, what), want[1][what]);
            for (int i : new int[] {MIN, -1, 2, 8, MAX}) {
                CHECK.due("none such", x.queued(2, i, what), -1);
            }
            for (int station : new int[] {MIN, -1, 0, 1, 3, 8, MAX}) {
                CHECK.due("none such", x.queued(station, 0, what), -1);
            }
        }
        for (int what : new int[] {MIN, -1, 4, 5, MAX}) {
            CHECK.due("another what", x.queued(2, 0, what), -1);
        }
    }

    /** "NONE if it has none, or there is none such." */
    private static void meanThatIs() {
        EarlyToken x = gone();
        for (int station : new int[] {MIN, -1, 2, 8, MAX}) {
            CHECK.due("none such", x.mean(station), -1);
        }
        CHECK.due("one", x.mean(0), 4000);
        CHECK.due("none", x.mean(1), -1);
    }
}
