/**
 * What is thought, sentence by sentence of the part "Terms" 4 and of the promises 28 to 30: how far, of what, when it
 * is none, and that nothing of it stays.
 */
public final class EdgesOfThoughtTest {
    private static final Check CHECK = new Check("EdgesOfThoughtTest");
    private static final int MIN = Integer.MIN_VALUE;
    private static final int MAX = Integer.MAX_VALUE;

    public static void main(String[] args) {
        foundOfWhat();
        noTokenIsThereNow();
        heldOrOnItsWay();
        notFound();
        allThatAreNotOut();
        byOneClaimThatWonSince();
        foundLate();
        foundBeyondTheLastTick();
        wouldOfHowMany();
        wouldOfWhat();
        wouldNotAboveTheLastTick();
        wouldIsWhatComes();
        askedOfWhat();
        askedIntoAFullLine();
        askedOfOneThatWouldBeLost();
        delaysOfItsLinksToo();
        askedTwoThousandTicks();
        askedBeyondTheLastTick();
        nothingOfItStays();
        CHECK.end();
    }

    /** Two stations: 0 won at 4, and the token comes to it at 8, 12, 16 .. */
    private static EarlyToken two(int ticks) {
        EarlyToken x = new EarlyToken();
        x.begin(2);
        x.claim(0);
        x.tick(ticks);
        return x;
    }

    private static void pass(EarlyToken x, int ticks) {
        for (int left = ticks; left > 0; left -= 300) {
            x.tick(Math.min(300, left));
        }
    }

    /** "or another what" */
    private static void foundOfWhat() {
        EarlyToken x = two(20);
        for (int what : new int[] {MIN, -1, 2, 3, MAX}) {
            CHECK.due("another what", x.found(what), -1);
        }
        CHECK.due("1 claims at 138, and 0 with its own at 140; it wins at 144, 1 is up at 146", x.found(0), 118 + 8);
        CHECK.due("whose", x.found(1), 0);
    }

    /** "NONE if .. no TOKEN is there now" */
    private static void noTokenIsThereNow() {
        CHECK.due("quiet", new EarlyToken().found(0), -1);
        CHECK.due("a claim alone, that will win", two(3).found(0), -1);
        CHECK.due("whose", two(3).found(1), -1);
        CHECK.yes("it won", two(4).found(0) > 0);
        EarlyToken x = two(20);
        x.lose();
        CHECK.due("lost already", x.found(0), -1);
        CHECK.due("lost already", x.found(1), -1);
        x.doubled(0);
        CHECK.yes("one is there", x.found(0) > 0);
    }

    private static void heldOrOnItsWay() {
        EarlyToken x = two(11);
        x.frame(0, 1, 1, 9);
        CHECK.due("on its way", x.look(12), 1);
        CHECK.due("0 claims at 128, wins at 132, 1 is up at 134", x.found(0), 134 - 11);
        x.tick(2);
        CHECK.due("held", x.station(0, 7), 1);
        CHECK.due("nothing on its way", x.look(12), 0);
        CHECK.due("1 claims at 130, 0 at 132, it wins at 136, 1 is up at 138", x.found(0), 138 - 13);
    }

    /** "NONE if it is not found" */
    private static void notFound() {
        EarlyToken x = two(19);
        x.cut(0, true);
        CHECK.due("a token is there", x.look(13), 1);
        CHECK.due("no claim gets round", x.found(0), -1);
        CHECK.due("no claim gets round", x.found(1), -1);
        x.cut(0, false);
        CHECK.yes("it does", x.found(0) > 0);
    }

    /** "all that are not OUT" */
    private static void allThatAreNotOut() {
        EarlyToken x = new EarlyToken();
        x.claim(0);
        x.tick(20);
        x.out(1, true);
        int ticks = x.found(0);
        CHECK.yes("two of three", ticks > 0);
        x.lose();
        pass(x, ticks - 1);
        CHECK.no("not yet", x.look(14) == 5 && x.count(4) == 2);
        x.tick(1);
        CHECK.due("UP", x.look(14), 5);
        CHECK.due("WON", x.count(4), 2);
        EarlyToken y = new EarlyToken();
        y.claim(0);
        y.tick(20);
        y.out(1, true);
        y.out(1, false);
        CHECK.yes("quiet, but not OUT: it must be up", y.found(0) > 0);
        int all = y.found(0);
        y.lose();
        pass(y, all - 1);
        CHECK.no("not yet", y.look(14) == 7);
        y.tick(1);
        CHECK.due("UP", y.look(14), 7);
    }

    /** "are UP by one CLAIM that WON since" */
    private static void byOneClaimThatWonSince() {
        EarlyToken x = two(6);
        CHECK.due("UP by one that won before", x.look(14), 3);
        int ticks = x.found(0);
        CHECK.due("0 is late at 64, claims at 124, wins at 128, 1 is up at 130", ticks, 124);
        EarlyToken y = two(14);
        y.bid(1, 40);
        y.doubled(0);
        y.claim(1);
        CHECK.due("1 wins at 18, 0 is up at 20", y.found(0), 6);
        CHECK.due("1's claim, which is on its way", y.found(1), 1);
    }

    /** As late as a ring can be: a long way, and the greatest bids. */
    private static void foundLate() {
        EarlyToken x = slow();
        int ticks = x.found(0);
        int whose = x.found(1);
        CHECK.yes("late: " + ticks, ticks > 1200);
        x.lose();
        pass(x, ticks - 1);
        CHECK.no("not yet", x.look(14) == 255);
        x.tick(1);
        CHECK.due("UP", x.look(14), 255);
        CHECK.due("WON", x.count(4), 2);
        for (int i = 0; i < 8; i++) {
            CHECK.station(x, i, 24, whose);
        }
    }

    private static EarlyToken slow() {
        EarlyToken x = new EarlyToken();
        x.begin(8);
        for (int i = 0; i < 8; i++) {
            x.bid(i, 500);
        }
        for (int i = 0; i < 8; i++) {
            x.delay(i, 20);
        }
        x.set(0, 50);
        x.set(1, 999);
        x.claim(0);
        pass(x, 321);
        return x;
    }

    /** "(3000 at most; beyond 30000, too)" */
    private static void foundBeyondTheLastTick() {
        for (int tick : new int[] {29600, 29999, 30000}) {
            EarlyToken x = two(8);
            pass(x, tick - 8);
            CHECK.due("TICK", x.look(7), tick);
            EarlyToken earlier = two(tick % 4 + 20);
            CHECK.due("as ever", x.found(0), earlier.found(0));
            CHECK.due("whose", x.found(1), 0);
            CHECK.due("TICK", x.look(7), tick);
        }
    }

    /** "WOULD (n 1 .. 300) .. NONE if n can't be" */
    private static void wouldOfHowMany() {
        EarlyToken x = two(10);
        for (int n : new int[] {MIN, -300, -1, 0, 301, MAX}) {
            for (int what = 0; what < 6; what++) {
                CHECK.due("would(" + n + ", " + what + ")", x.would(n, what), -1);
            }
        }
        CHECK.due("1", x.would(1, 0), 2);
        CHECK.due("300", x.would(300, 0), 2);
    }

    /** "or another what" */
    private static void wouldOfWhat() {
        EarlyToken x = two(10);
        for (int what : new int[] {MIN, -1, 6, 7, MAX}) {
            CHECK.due("another what", x.would(1, what), -1);
            CHECK.due("another what", x.would(300, what), -1);
        }
        int[] none = {0, 0, 0, 0, 0, 0};
        for (int what = 0; what < 6; what++) {
            CHECK.due("nothing at all", new EarlyToken().would(300, what), none[what]);
        }
    }

    /** "it would be above 30000" */
    private static void wouldNotAboveTheLastTick() {
        int[][] moments = {{29700, 300}, {29701, 299}, {29999, 1}, {30000, 0}};
        for (int[] moment : moments) {
            EarlyToken x = two(8);
            pass(x, moment[0] - 8);
            CHECK.due("TICK", x.look(7), moment[0]);
            CHECK.due("as far as that", moment[1] == 0 ? 2 : x.would(moment[1], 0), 2);
            CHECK.due("one more", x.would(moment[1] + 1, 0), -1);
        }
    }

    private static void wouldIsWhatComes() {
        for (int n : new int[] {1, 2, 17, 299, 300}) {
            int[] thought = new int[6];
            for (int what = 0; what < 6; what++) {
                thought[what] = busy().would(n, what);
            }
            EarlyToken x = busy();
            x.tick(n);
            int missed = 0;
            int delivered = 0;
            for (int i = 0; i < 4; i++) {
                missed += x.station(i, 15);
                delivered += x.station(i, 17);
            }
            CHECK.due("UP", thought[0], Integer.bitCount(x.look(14)));
            CHECK.due("MESSAGES", thought[1], x.look(12));
            CHECK.due("MISSED", thought[2], missed);
            CHECK.due("DELIVERED", thought[3], delivered);
            CHECK.due("longest", thought[4], x.look(22));
            CHECK.due("TOKENS", thought[5], x.look(13));
        }
    }

    private static EarlyToken busy() {
        EarlyToken x = new EarlyToken();
        x.begin(4);
        for (int i = 0; i < 4; i++) {
            x.bid(i, 90 + 7 * i);
            x.share(i, 3 + i);
            x.stream(i, 50 + 13 * i, 4 + 2 * i);
        }
        x.claim(3);
        x.tick(60);
        x.storm(12);
        x.tick(19);
        x.doubled(1);
        return x;
    }

    /** "NONE if it can't come" */
    private static void askedOfWhat() {
        EarlyToken x = two(10);
        for (int station : new int[] {MIN, -1, 2, 8, MAX}) {
            CHECK.due("none such", x.asked(station, 1, 1, 1), -1);
            CHECK.due("to none such", x.asked(0, station, 1, 1), -1);
        }
        CHECK.due("to itself", x.asked(0, 0, 1, 1), -1);
        CHECK.due("to itself", x.asked(1, 1, 1, 1), -1);
        for (int priority : new int[] {MIN, -1, 0, 4, MAX}) {
            CHECK.due("priority", x.asked(0, 1, priority, 1), -1);
        }
        for (int length : new int[] {MIN, -1, 0, 11, MAX}) {
            CHECK.due("length", x.asked(0, 1, 1, length), -1);
        }
        for (int priority = 1; priority <= 3; priority++) {
            CHECK.due("2 to wait, 1 to send, 2 on its way", x.asked(0, 1, priority, 1), 5);
            CHECK.due("2 to wait, 10 to send, 2 on its way", x.asked(0, 1, priority, 10), 14);
        }
        x.set(0, 9);
        CHECK.due("MOST", x.asked(0, 1, 1, 9), 13);
        CHECK.due("beyond MOST", x.asked(0, 1, 1, 10), -1);
    }

    private static void askedIntoAFullLine() {
        EarlyToken x = two(10);
        for (int i = 0; i < 8; i++) {
            CHECK.due("one more yet", x.asked(0, 1, 1, 1), 2 + i + 1 + 2);
            x.frame(0, 1, 1, 1);
        }
        CHECK.due("8 are in it", x.asked(0, 1, 1, 1), -1);
        CHECK.due("not in that of 1", x.asked(1, 0, 1, 1), 2 + 8 + 2 + 1 + 2);
        x.tick(3);
        CHECK.due("7 are in it", x.asked(0, 1, 1, 1), 7 + 1 + 2);
    }

    /** "or would be LOST" */
    private static void askedOfOneThatWouldBeLost() {
        EarlyToken x = new EarlyToken();
        x.begin(4);
        x.claim(0);
        x.tick(22);
        CHECK.due("2 to wait, 1 to send, 4 on its way", x.asked(0, 2, 1, 1), 7);
        x.cut(2, true);
        CHECK.due("behind TO", x.asked(0, 2, 1, 1), 7);
        CHECK.due("a LINK to it is CUT", x.asked(0, 3, 1, 1), -1);
        x.cut(2, false);
        x.out(2, true);
        CHECK.due("TO is OUT", x.asked(0, 2, 1, 1), -1);
        CHECK.due("one between is OUT", x.asked(0, 3, 1, 1), 9);
        CHECK.due("of one that is OUT", x.asked(2, 0, 1, 1), -1);
    }

    /** "the DELAYS of its LINKS too" */
    private static void delaysOfItsLinksToo() {
        EarlyToken x = new EarlyToken();
        x.begin(4);
        int[] delays = {1, 3, 5, 7};
        for (int i = 0; i < 4; i++) {
            x.delay(i, delays[i]);
        }
        x.claim(0);
        x.tick(48 - 4);
        CHECK.due("to 1", x.asked(0, 1, 1, 2), 4 + 2 + 1);
        CHECK.due("to 2", x.asked(0, 2, 1, 2), 4 + 2 + 4);
        CHECK.due("to 3", x.asked(0, 3, 1, 2), 4 + 2 + 9);
        CHECK.due("of 3 to 2", x.asked(3, 2, 1, 2), 4 + 9 + 2 + 11);
    }

    /** "(2000 TICKS at most till its end ..)": nobody sends frames as long as LIMIT is 500. */
    private static void askedTwoThousandTicks() {
        EarlyToken x = new EarlyToken();
        x.begin(8);
        for (int i = 0; i < 8; i++) {
            x.bid(i, 500);
        }
        for (int i = 0; i < 8; i++) {
            x.delay(i, 20);
        }
        x.set(0, 50);
        x.claim(0);
        pass(x, 620);
        x.lose();
        for (int i = 0; i < 8; i++) {
            x.frame(1, 2, 3, 50);
        }
        x.frame(2, 3, 3, 50);
        x.frame(2, 3, 3, 50);
        int length = 1;
        while (length < 50 && x.asked(2, 3, 1, length + 1) != -1) {
            length++;
        }
        CHECK.yes("not the longest", length < 50);
        CHECK.due("at its end in 2000, and a DELAY", x.asked(2, 3, 1, length), 2020);
        CHECK.due("at its end in 2001", x.asked(2, 3, 1, length + 1), -1);
        x.frame(2, 3, 1, length + 1);
        pass(x, 2000);
        CHECK.station(x, 2, 17, 2);
        x.tick(1);
        CHECK.station(x, 2, 17, 3);
        CHECK.station(x, 2, 20, 2021);
    }

    /** "beyond 30000, too" */
    private static void askedBeyondTheLastTick() {
        for (int tick : new int[] {29998, 30000}) {
            EarlyToken x = two(8);
            pass(x, tick - 8);
            CHECK.due("TICK", x.look(7), tick);
            CHECK.due("as ever", x.asked(0, 1, 1, 5), two(tick % 4 + 20).asked(0, 1, 1, 5));
            CHECK.due("TICK", x.look(7), tick);
            CHECK.due("no TICK of it", x.tick(tick == 30000 ? 1 : 3), -1);
        }
    }

    /** "IN THOUGHT (nothing of it stays)" */
    private static void nothingOfItStays() {
        CHECK.unchanged("found", EdgesOfThoughtTest::busy, x -> x.found(0) + x.found(1));
        for (int n : new int[] {1, 300}) {
            for (int w = 0; w < 6; w++) {
                int what = w;
                CHECK.unchanged("would", EdgesOfThoughtTest::busy, x -> x.would(n, what));
            }
        }
        CHECK.unchanged("asked", EdgesOfThoughtTest::busy, x -> x.asked(0, 1, 1, 3));
        CHECK.unchanged("asked in vain", EdgesOfThoughtTest::busy, x -> x.asked(0, 0, 1, 3));
        EarlyToken x = busy();
        CHECK.yes("taken", x.image(true));
        x.tick(40);
        x.found(0);
        x.would(9, 3);
        x.asked(1, 2, 2, 2);
        CHECK.yes("the image is as it was taken", x.image(false));
        CHECK.same("the image is as it was taken", EdgesOfThoughtTest::busy, () -> {
            EarlyToken y = busy();
            y.image(true);
            y.tick(40);
            y.found(0);
            y.would(9, 3);
            y.asked(1, 2, 2, 2);
            y.image(false);
            return y;
        });
    }
}
