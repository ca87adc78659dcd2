/**
 * Shares that are sure or dealt out, sentence by sentence of the part "Terms" 4 and of the promises 22 to 26: what is
 * just enough, one less, one more, cut downwards, none.
 */
public final class EdgesOfSchemesTest {
    private static final Check CHECK = new Check("EdgesOfSchemesTest");
    private static final int MIN = Integer.MIN_VALUE;
    private static final int MAX = Integer.MAX_VALUE;

    public static void main(String[] args) {
        lengthAtLeast();
        periodByFloorDownwards();
        periodBelowFloor();
        sureOfWhom();
        spareZeroAtLeast();
        spareByHowManyDownwards();
        byLoadDownwards();
        loadsAreDownwardsEach();
        noLoadAtAll();
        leastShare();
        leastShareUpwards();
        noShareIfPeriodByFloorIsBelowTwo();
        whoIsOutHasZero();
        dealtOfWhat();
        latencyAndMostNoMoreThanFloor();
        eachHasItsShare();
        allTogetherSpareAtMost();
        allWouldBeSure();
        fitsOfWhat();
        leastIsTenAtLeast();
        leastIsInsteadOfWhatFloorIs();
        leastFiveHundredAtMost();
        leastIsByScheme2();
        leastOfNone();
        loadTimes();
        loadNotBeyond();
        loadOfAll();
        CHECK.end();
    }

    /** "times SHARE is LENGTH at least" */
    private static void lengthAtLeast() {
        EarlyToken x = new EarlyToken();
        x.share(0, 10);
        for (int length = 19; length <= 21; length++) {
            x.stream(0, 180, length);
            CHECK.due("2 times 10 for " + length, x.sure(0), length <= 20 ? 1 : 0);
        }
        x.stream(0, 180, 1);
        CHECK.due("1", x.sure(0), 1);
        x.share(0, 0);
        CHECK.due("0 for 1", x.sure(0), 0);
    }

    /** "(PERIOD by FLOOR, downwards, less 1)" */
    private static void periodByFloorDownwards() {
        EarlyToken x = new EarlyToken();
        x.share(0, 10);
        x.stream(0, 179, 11);
        CHECK.due("179 by 60 is 2", x.sure(0), 0);
        x.stream(0, 180, 11);
        CHECK.due("180 by 60 is 3", x.sure(0), 1);
        x.bid(1, 61);
        x.bid(2, 61);
        x.bid(0, 61);
        CHECK.due("180 by 61 is 2", x.sure(0), 0);
        x.stream(0, 183, 11);
        CHECK.due("183 by 61 is 3", x.sure(0), 1);
    }

    private static void periodBelowFloor() {
        EarlyToken x = new EarlyToken();
        x.share(0, 44);
        x.stream(0, 120, 44);
        CHECK.due("120 by 60 is 2", x.sure(0), 1);
        x.stream(0, 119, 1);
        CHECK.due("119 by 60 is 1", x.sure(0), 0);
        x.stream(0, 60, 1);
        CHECK.due("60 by 60 is 1", x.sure(0), 0);
        x.stream(0, 59, 1);
        CHECK.due("59 by 60 is 0", x.sure(0), 0);
        x.share(0, 0);
        CHECK.due("0 times less than none", x.sure(0), 0);
    }

    /** "NONE if it has none, or there is none such." */
    private static void sureOfWhom() {
        EarlyToken x = new EarlyToken();
        for (int station : new int[] {MIN, -1, 3, 8, MAX}) {
            CHECK.due("none such", x.sure(station), -1);
        }
        CHECK.due("no stream", x.sure(2), -1);
        x.stream(2, 20, 1);
        CHECK.due("a stream", x.sure(2), 0);
        x.stream(2, 0, 1);
        CHECK.due("no stream", x.sure(2), -1);
    }

    /** "what FLOOR has more than LATENCY and MOST (SPARE; 0 at least)" */
    private static void spareZeroAtLeast() {
        EarlyToken x = new EarlyToken();
        x.bid(0, 17);
        CHECK.due("17 to 16", x.look(11), 1);
        x.bid(0, 16);
        CHECK.due("16 to 16", x.look(11), 0);
        CHECK.due("nothing to deal out", x.dealt(0, 0), 0);
        EarlyToken y = floorOfSixty(50, 11);
        CHECK.due("60 to 61", y.look(11), 0);
        CHECK.due("nothing to deal out", y.dealt(0, 0), 0);
        y.stream(0, 20, 9);
        CHECK.due("nothing to deal out", y.dealt(1, 0), 0);
    }

    /** FLOOR is 60 by the TARGET of 0 alone. */
    private static EarlyToken floorOfSixty(int most, int latency) {
        EarlyToken x = new EarlyToken();
        x.claim(0);
        for (int i = 0; i < 3; i++) {
            x.bid(i, 500);
        }
        x.set(0, most);
        x.delay(0, latency - 4);
        x.tick(6);
        CHECK.due("FLOOR", x.look(9), 60);
        CHECK.due("LATENCY", x.look(8), latency);
        return x;
    }

    /** "0: SPARE by how many are not OUT, downwards, each." */
    private static void spareByHowManyDownwards() {
        EarlyToken x = new EarlyToken();
        for (int most = 8; most <= 11; most++) {
            x.set(0, most);
            CHECK.due("SPARE", x.look(11), 54 - most);
            for (int i = 0; i < 3; i++) {
                CHECK.due("by 3", x.dealt(0, i), (54 - most) / 3);
            }
        }
        x.out(2, true);
        CHECK.due("43 by 2", x.dealt(0, 0), 21);
        x.set(0, 10);
        CHECK.due("44 by 2", x.dealt(0, 1), 22);
        CHECK.due("who is OUT", x.dealt(0, 2), 0);
    }

    /** "SPARE times its load by all loads" */
    private static void byLoadDownwards() {
        EarlyToken x = new EarlyToken();
        x.stream(0, 100, 7);
        x.stream(1, 50, 3);
        x.stream(2, 20, 1);
        CHECK.due("44 times 70 by 180", x.dealt(1, 0), 17);
        CHECK.due("44 times 60 by 180", x.dealt(1, 1), 14);
        CHECK.due("44 times 50 by 180", x.dealt(1, 2), 12);
        x.set(0, 9);
        CHECK.due("45 times 60 by 180", x.dealt(1, 1), 15);
        x.stream(0, 0, 0);
        CHECK.due("45 times 60 by 110", x.dealt(1, 1), 24);
        CHECK.due("no load", x.dealt(1, 0), 0);
    }

    /** "load of a STATION: 1000000 times LENGTH by PERIOD" */
    private static void loadsAreDownwardsEach() {
        EarlyToken x = new EarlyToken();
        x.set(0, 9);
        x.stream(0, 30, 1);
        x.stream(1, 20, 1);
        CHECK.due("45 times 33333 by 83333", x.dealt(1, 0), 17);
        CHECK.due("45 times 50000 by 83333", x.dealt(1, 1), 27);
        CHECK.due("loads", x.load(1), 83333);
        x.stream(1, 30, 2);
        CHECK.due("33333 and 66666", x.load(1), 99999);
    }

    /** "(0 without any)" */
    private static void noLoadAtAll() {
        EarlyToken x = new EarlyToken();
        CHECK.due("no stream", x.dealt(1, 0), 0);
        x.stream(1, 20, 5);
        CHECK.due("none of its own", x.dealt(1, 0), 0);
        CHECK.due("all", x.dealt(1, 1), 44);
        x.out(1, true);
        CHECK.due("who has one is OUT", x.dealt(1, 0), 0);
        CHECK.due("who has one is OUT", x.dealt(1, 1), 0);
    }

    /** "2: the least SHARE by which its STREAM would be SURE (0 without one ..)" */
    private static void leastShare() {
        for (int period : new int[] {120, 180, 241, 999}) {
            for (int length : new int[] {1, 2, 15, 16, 43}) {
                EarlyToken x = new EarlyToken();
                x.stream(1, period, length);
                int share = x.dealt(2, 1);
                CHECK.yes("told", x.share(1, share));
                CHECK.due("sure by it", x.sure(1), 1);
                CHECK.yes("told", x.share(1, share - 1));
                CHECK.due("not by one less", x.sure(1), 0);
                CHECK.due("without a stream", x.dealt(2, 0), 0);
            }
        }
    }

    private static void leastShareUpwards() {
        EarlyToken x = new EarlyToken();
        int[] want = {7, 7, 7, 8};
        for (int length = 19; length <= 22; length++) {
            x.stream(0, 240, length);
            CHECK.due(length + " by 3", x.dealt(2, 0), want[length - 19]);
        }
        x.stream(0, 999, 1);
        CHECK.due("1 by 15", x.dealt(2, 0), 1);
        x.stream(0, 120, 99);
        CHECK.due("more than SPARE", x.dealt(2, 0), 99);
    }

    /** "none, if PERIOD by FLOOR is below 2" */
    private static void noShareIfPeriodByFloorIsBelowTwo() {
        EarlyToken x = new EarlyToken();
        int[] periods = {20, 59, 60, 61, 119, 120, 121};
        for (int period : periods) {
            x.stream(0, period, 1);
            CHECK.due("period " + period, x.dealt(2, 0), period < 120 ? -1 : 1);
        }
        x.stream(0, 119, 5);
        x.bid(1, 59);
        CHECK.due("119 by 59 is 2", x.dealt(2, 0), 5);
    }

    /** "(Who is OUT has 0 by each, no load.)" */
    private static void whoIsOutHasZero() {
        EarlyToken x = new EarlyToken();
        x.stream(0, 20, 9);
        x.stream(1, 500, 9);
        CHECK.due("none", x.dealt(2, 0), -1);
        x.out(0, true);
        for (int scheme = 0; scheme < 3; scheme++) {
            CHECK.due("OUT", x.dealt(scheme, 0), 0);
            CHECK.due("nor does it keep one from fitting", x.fits(scheme), 1);
        }
        CHECK.due("all loads", x.load(1), 18000);
        CHECK.due("all of SPARE", x.dealt(1, 1), 44);
    }

    /** "NONE if it has none, or one can't be." */
    private static void dealtOfWhat() {
        EarlyToken x = new EarlyToken();
        for (int scheme : new int[] {MIN, -1, 3, MAX}) {
            CHECK.due("no such scheme", x.dealt(scheme, 0), -1);
        }
        for (int station : new int[] {MIN, -1, 3, 8, MAX}) {
            for (int scheme = 0; scheme < 3; scheme++) {
                CHECK.due("no such station", x.dealt(scheme, station), -1);
            }
        }
        x.begin(8);
        CHECK.due("the last of eight", x.dealt(0, 7), 4);
    }

    /** "A SCHEME FITS, if LATENCY and MOST are no more than FLOOR" */
    private static void latencyAndMostNoMoreThanFloor() {
        for (int scheme = 0; scheme < 3; scheme++) {
            CHECK.due("59", floorOfSixty(50, 9).fits(scheme), 1);
            CHECK.due("60", floorOfSixty(50, 10).fits(scheme), 1);
            CHECK.due("61", floorOfSixty(50, 11).fits(scheme), 0);
        }
    }

    /** "each has its SHARE by it" */
    private static void eachHasItsShare() {
        EarlyToken x = new EarlyToken();
        for (int period : new int[] {20, 59, 60, 119}) {
            x.stream(0, period, 1);
            CHECK.due("none by 2, PERIOD " + period, x.fits(2), 0);
        }
        x.stream(0, 120, 1);
        CHECK.due("1 by 2", x.fits(2), 1);
        x.stream(1, 59, 1);
        CHECK.due("none for another one", x.fits(2), 0);
    }

    /** "all together are SPARE at most" */
    private static void allTogetherSpareAtMost() {
        EarlyToken x = new EarlyToken();
        x.stream(0, 120, 20);
        x.stream(1, 120, 20);
        for (int length = 3; length <= 5; length++) {
            x.stream(2, 120, length);
            CHECK.due("40 and " + length, x.fits(2), length <= 4 ? 1 : 0);
        }
        x.set(0, 9);
        CHECK.due("45", x.fits(2), 1);
    }

    /** "and all STREAMS would be SURE" */
    private static void allWouldBeSure() {
        EarlyToken x = new EarlyToken();
        for (int length = 27; length <= 29; length++) {
            x.stream(1, 180, length);
            CHECK.due("14 each, twice, for " + length, x.fits(0), length <= 28 ? 1 : 0);
        }
        for (int length = 87; length <= 89; length++) {
            x.stream(1, 180, length);
            CHECK.due("44, twice, for " + length, x.fits(1), length <= 88 ? 1 : 0);
        }
        x.stream(1, 119, 1);
        for (int scheme = 0; scheme < 3; scheme++) {
            CHECK.due("never", x.fits(scheme), 0);
        }
        x.stream(1, 0, 1);
        for (int scheme = 0; scheme < 3; scheme++) {
            CHECK.due("no stream", x.fits(scheme), 1);
        }
    }

    /** "NONE if there is none such." */
    private static void fitsOfWhat() {
        EarlyToken x = new EarlyToken();
        for (int scheme : new int[] {MIN, -1, 3, 4, MAX}) {
            CHECK.due("none such", x.fits(scheme), -1);
        }
    }

    /** "the least FLOOR 10 .. 500" */
    private static void leastIsTenAtLeast() {
        EarlyToken x = new EarlyToken();
        x.begin(2);
        x.delay(0, 1);
        x.delay(1, 1);
        for (int most = 1; most <= 12; most++) {
            x.set(0, most);
            CHECK.due("LATENCY and MOST are " + (2 + most), x.least(), Math.max(10, 2 + most));
        }
        x.set(0, 1);
        x.stream(0, 20, 7);
        CHECK.due("20 by 10 is 2, 7 and 3 are 10", x.least(), 10);
        x.stream(0, 20, 8);
        CHECK.due("20 by 11 is 1", x.least(), -1);
    }

    /** "(instead of what it is)" */
    private static void leastIsInsteadOfWhatFloorIs() {
        EarlyToken x = new EarlyToken();
        x.stream(0, 200, 20);
        CHECK.due("200 by 18 is 11: 2", x.least(), 18);
        x.bid(0, 40);
        CHECK.due("another FLOOR", x.least(), 18);
        x.share(0, 20);
        CHECK.due("other SHARES", x.least(), 18);
        for (int i = 0; i < 3; i++) {
            x.bid(i, 500);
        }
        CHECK.due("another FLOOR", x.least(), 18);
        CHECK.due("FLOOR stays", x.look(9), 500);
        CHECK.due("200 by 500 is 0", x.dealt(2, 0), -1);
    }

    /** 499 is the greatest that can be: 999 by 500 is 1, and LATENCY and MOST are 210 at most. */
    private static void leastFiveHundredAtMost() {
        EarlyToken x = new EarlyToken();
        x.begin(8);
        for (int i = 0; i < 8; i++) {
            x.bid(i, 500);
        }
        for (int i = 0; i < 8; i++) {
            x.delay(i, 20);
        }
        x.set(0, 50);
        CHECK.due("210", x.least(), 210);
        x.stream(0, 999, 99);
        x.stream(1, 999, 99);
        x.stream(2, 999, 90);
        CHECK.due("288 by 499", x.least(), 498);
        x.stream(2, 999, 91);
        CHECK.due("289 by 499", x.least(), 499);
        x.stream(2, 999, 92);
        CHECK.due("290 would be for 500, but 999 by 500 is 1", x.least(), -1);
    }

    /** "by which SCHEME 2 FITS": by 30 it does, and neither of the others would. */
    private static void leastIsByScheme2() {
        EarlyToken x = new EarlyToken();
        x.stream(0, 200, 20);
        x.stream(1, 60, 10);
        CHECK.due("4 and 10 and 16 are 30", x.least(), 30);
        x.bid(0, 30);
        CHECK.due("4 each", x.fits(0), 0);
        CHECK.due("5 and 8", x.fits(1), 0);
        CHECK.due("4 and 10", x.fits(2), 1);
        x.bid(2, 29);
        CHECK.due("one less", x.fits(2), 0);
    }

    /** "LEAST. NONE if there is none." */
    private static void leastOfNone() {
        EarlyToken x = new EarlyToken();
        x.stream(0, 20, 5);
        CHECK.due("20 by 16 is 1", x.least(), -1);
        x.stream(0, 32, 1);
        CHECK.due("32 by 16 is 2, but 1 and 16 are 17", x.least(), -1);
        x.stream(0, 34, 1);
        CHECK.due("34 by 17 is 2", x.least(), 17);
        x.stream(0, 0, 1);
        CHECK.due("no stream", x.least(), 16);
    }

    /** "NONE if times is below 0" */
    private static void loadTimes() {
        EarlyToken x = new EarlyToken();
        for (long times : new long[] {0, 1, Long.MAX_VALUE}) {
            CHECK.due("no load", x.load(times), 0);
        }
        for (long times : new long[] {-1, MIN, Long.MIN_VALUE}) {
            CHECK.due("below 0", x.load(times), -1);
        }
        x.stream(0, 999, 1);
        CHECK.due("1001 and a thousandth, downwards", x.load(1), 1001);
        CHECK.due("0 times", x.load(0), 0);
        CHECK.due("below 0", x.load(-1), -1);
        CHECK.due("below 0", x.load(Long.MIN_VALUE), -1);
        CHECK.due("beyond an int", x.load(4000000000L), 4004000000000L);
    }

    /** "or it is beyond 9223372036854775807" */
    private static void loadNotBeyond() {
        EarlyToken x = new EarlyToken();
        x.stream(0, 559, 2);
        CHECK.due("it divides 9223372036854775807", x.load(1), 3577);
        long most = Long.MAX_VALUE / 3577;
        CHECK.due("just that", x.load(most), Long.MAX_VALUE);
        CHECK.due("one less", x.load(most - 1), Long.MAX_VALUE - 3577);
        CHECK.due("beyond", x.load(most + 1), -1);
        CHECK.due("beyond", x.load(2 * most), -1);
        CHECK.due("far beyond", x.load(Long.MAX_VALUE), -1);
        x.stream(0, 20, 2);
        most = Long.MAX_VALUE / 100000;
        CHECK.due("not beyond", x.load(most), most * 100000);
        CHECK.due("beyond", x.load(most + 1), -1);
        CHECK.due("beyond, would wrap to 0", x.load(1L << 59), -1);
    }

    /** "All loads together" */
    private static void loadOfAll() {
        EarlyToken x = new EarlyToken();
        x.begin(8);
        for (int i = 0; i < 8; i++) {
            x.stream(i, 20, 99);
            CHECK.due("all loads", x.load(1), 4950000L * (i + 1));
        }
        x.out(7, true);
        CHECK.due("who is OUT has none", x.load(1), 4950000L * 7);
    }
}
