import java.util.function.Supplier;

/**
 * What is kept of what was, sentence by sentence of the part "Terms" 4 and of the promises 31 to 35: the empty book,
 * the full one, one line more; what is counted, once and not twice; the image in every state.
 */
public final class EdgesOfRecordsTest {
    private static final Check CHECK = new Check("EdgesOfRecordsTest");
    private static final int MIN = Integer.MIN_VALUE;
    private static final int MAX = Integer.MAX_VALUE;

    public static void main(String[] args) {
        bookOfFortyLines();
        bookOfWhat();
        bookOfThoseThatWereHeld();
        logOfSixtyLines();
        logOfWhat();
        logOfEachKind();
        countOfWhat();
        messagesSentAndLost();
        ticksOfSendingEach();
        lookAtWhat();
        setsOfStations();
        leastTargetOfThoseThatAreUp();
        longestRoundTripOfAll();
        noImage();
        imageMoreThanOnce();
        imageOfQuiet();
        imageOfClaims();
        imageOfBeacons();
        imageOfHolds();
        imageOfWhatCountsForNothing();
        imageOfTokens();
        imageOfWhatWasTold();
        imageOfRecords();
        askingChangesNothing();
        CHECK.end();
    }

    private static EarlyToken two(int ticks) {
        EarlyToken x = new EarlyToken();
        x.begin(2);
        x.claim(0);
        pass(x, ticks);
        return x;
    }

    private static void pass(EarlyToken x, int ticks) {
        for (int left = ticks; left > 0; left -= 300) {
            x.tick(Math.min(300, left));
        }
    }

    /** "THE BOOK (40 lines, the latest)": of two stations one lets go each second tick from 8 on. */
    private static void bookOfFortyLines() {
        CHECK.due("empty", two(7).book(0, 0), -1);
        CHECK.due("empty", two(7).look(21), 0);
        for (int lines : new int[] {1, 2, 39, 40, 41, 42, 80, 81, 200}) {
            EarlyToken x = two(8 + 2 * (lines - 1));
            CHECK.due("all that came", x.look(21), lines);
            for (int i = 0; i < 42; i++) {
                boolean is = i < lines && i < 40;
                int line = lines - 1 - i;
                CHECK.due("STATION of line " + i + " of " + lines, x.book(i, 0), is ? line % 2 : -1);
                CHECK.due("TICK of line " + i + " of " + lines, x.book(i, 1), is ? 8 + 2 * line : -1);
                CHECK.due("since", x.book(i, 2), is ? 0 : -1);
            }
        }
    }

    /** "NONE if there is none such, or another what." */
    private static void bookOfWhat() {
        EarlyToken x = two(300);
        for (int i : new int[] {MIN, -1, 40, 41, MAX}) {
            for (int what = 0; what < 5; what++) {
                CHECK.due("none such", x.book(i, what), -1);
            }
        }
        for (int what : new int[] {MIN, -1, 5, 6, MAX}) {
            CHECK.due("another what", x.book(0, what), -1);
            CHECK.due("another what", x.book(39, what), -1);
        }
    }

    /** "as a TOKEN that was held is let go" */
    private static void bookOfThoseThatWereHeld() {
        EarlyToken x = two(11);
        CHECK.due("who won, and who became up, held none", x.look(21), 2);
        CHECK.booked(x, 1, 0, 8, 0, 0, 0);
        CHECK.booked(x, 0, 1, 10, 0, 0, 0);
        x.frame(0, 1, 1, 3);
        x.frame(0, 1, 1, 4);
        x.tick(7);
        CHECK.due("not yet", x.look(21), 2);
        x.tick(1);
        CHECK.booked(x, 0, 0, 12, 7, 0, 7);
        x.doubled(0);
        CHECK.due("to double is none", x.look(21), 3);
        x.share(0, 6);
        x.stream(0, 20, 9);
        x.frame(0, 1, 1, 2);
        x.tick(2);
        x.lose();
        x.doubled(1);
        x.tick(2);
        CHECK.station(x, 0, 10, 6);
        x.tick(8);
        CHECK.booked(x, 0, 0, 23, 8, 6, 2);
    }

    /** "THE LOG (60 lines, the latest)": a rest of 3 is MISSED each 20 ticks from 40 on. */
    private static void logOfSixtyLines() {
        for (int lines : new int[] {0, 1, 59, 60, 61, 62, 120, 121}) {
            EarlyToken x = new EarlyToken();
            x.stream(2, 20, 3);
            pass(x, 20 + 20 * lines);
            CHECK.due("all that came", x.look(18), lines);
            for (int i = 0; i < 62; i++) {
                boolean is = i < lines && i < 60;
                CHECK.due("TICK of line " + i + " of " + lines, x.log(i, 0), is ? 20 + 20 * (lines - i) : -1);
                CHECK.due("what", x.log(i, 1), is ? 6 : -1);
                CHECK.due("STATION", x.log(i, 2), is ? 2 : -1);
                CHECK.due("REST", x.log(i, 3), is ? 3 : -1);
            }
        }
    }

    /** "NONE if there is none such, or another what." */
    private static void logOfWhat() {
        EarlyToken x = new EarlyToken();
        CHECK.due("empty", x.log(0, 0), -1);
        x.stream(2, 20, 3);
        pass(x, 2000);
        for (int i : new int[] {MIN, -1, 60, 61, MAX}) {
            for (int what = 0; what < 4; what++) {
                CHECK.due("none such", x.log(i, what), -1);
            }
        }
        for (int what : new int[] {MIN, -1, 4, 5, MAX}) {
            CHECK.due("another what", x.log(0, what), -1);
            CHECK.due("another what", x.log(59, what), -1);
        }
    }

    /** "0 it begins TO CLAIM (its BID), 1 WON (its TARGET), 2 BEACONING (0), 3 .., 4 .., 5 .., 6 .., 7 .." */
    private static void logOfEachKind() {
        EarlyToken x = new EarlyToken();
        x.bid(1, 50);
        x.set(1, 50);
        x.claim(1);
        x.bid(1, 55);
        x.bid(2, 70);
        x.tick(2);
        CHECK.logged(x, 0, 2, 0, 2, 70);
        CHECK.logged(x, 1, 0, 0, 1, 50);
        x.tick(4);
        CHECK.logged(x, 0, 6, 1, 1, 50);
        x.tick(2);
        CHECK.logged(x, 0, 8, 7, 2, 1);
        x.tick(3);
        x.doubled(0);
        x.tick(2);
        CHECK.logged(x, 0, 13, 4, 1, 0);
        x.stream(0, 20, 5);
        x.tick(27);
        CHECK.logged(x, 0, 40, 6, 0, 5);
        x.stream(0, 0, 0);
        x.cut(0, true);
        x.claim(1);
        x.lose();
        x.doubled(0);
        CHECK.due("LOST, not STRAY", x.count(3), 0);
        x.tick(2);
        CHECK.logged(x, 0, 42, 0, 2, 70);
        x.tick(2);
        CHECK.logged(x, 0, 44, 0, 0, 60);
        x.tick(39);
        int lines = x.look(18);
        x.tick(7);
        CHECK.logged(x, 0, 90, 2, 1, 0);
        x.tick(2);
        CHECK.logged(x, 0, 92, 3, 2, 1);
        x.tick(2);
        CHECK.due("1 beacons, 2 and 0 repeat", x.look(18), lines + 3);
        CHECK.logged(x, 0, 94, 3, 0, 1);
        x.tick(20);
        CHECK.due("once", x.look(18), lines + 3);
    }

    /** "NONE for another what." */
    private static void countOfWhat() {
        EarlyToken x = new EarlyToken();
        for (int what : new int[] {MIN, -1, 8, 9, MAX}) {
            CHECK.due("another what", x.count(what), -1);
        }
        for (int what = 0; what < 8; what++) {
            CHECK.due("nothing yet", x.count(what), 0);
        }
    }

    /** "What 0 MESSAGES sent (LOST at once, too), 1 LOST" */
    private static void messagesSentAndLost() {
        EarlyToken x = new EarlyToken();
        x.cut(0, true);
        x.claim(0);
        CHECK.due("sent", x.count(0), 1);
        CHECK.due("LOST", x.count(1), 1);
        x.claim(1);
        CHECK.due("sent", x.count(0), 2);
        CHECK.due("LOST", x.count(1), 1);
        x.cut(1, true);
        CHECK.due("sent", x.count(0), 2);
        CHECK.due("LOST", x.count(1), 2);
        CHECK.due("nothing else", x.count(2) + x.count(3) + x.count(4) + x.count(6) + x.count(7), 0);
        CHECK.due("began", x.count(5), 2);
    }

    /** "7 TICKS in which something was sent by who held a TOKEN (each)" */
    private static void ticksOfSendingEach() {
        EarlyToken x = two(14);
        x.frame(0, 1, 1, 6);
        x.tick(2);
        CHECK.due("0 begins", x.station(0, 10), 6);
        CHECK.due("none yet", x.count(7), 0);
        x.doubled(0);
        x.frame(1, 0, 1, 6);
        x.tick(2);
        CHECK.due("1 begins", x.station(1, 10), 6);
        CHECK.due("two of 0", x.count(7), 2);
        x.tick(1);
        CHECK.due("each", x.count(7), 4);
        x.tick(3);
        CHECK.due("0 is at its end", x.count(7), 10);
        x.tick(5);
        CHECK.due("all", x.count(7), 12);
    }

    /** "NONE - 99999 for another what." */
    private static void lookAtWhat() {
        EarlyToken x = two(20);
        for (int what : new int[] {MIN, -99999, -2, -1, 24, 25, MAX}) {
            CHECK.due("another what", x.look(what), -100000);
        }
        int[] want = {10, 200, 20, 0, 0, 0, 2, 20, 4, 60, 0, 46, 1, 1, 3, 0, 0, 0, 4, 0, 0, 7, 4, 60};
        for (int what = 0; what < 24; what++) {
            CHECK.due("look(" + what + ")", x.look(what), want[what]);
        }
    }

    /** "(a set)": by the number of each STATION, the first and the last too. */
    private static void setsOfStations() {
        EarlyToken x = new EarlyToken();
        x.begin(8);
        for (int i = 0; i < 6; i++) {
            x.out(i, true);
            CHECK.due("OUT", x.look(20), (2 << i) - 1);
        }
        x.begin(8);
        x.set(1, 50);
        int all = 0;
        for (int i = 7; i >= 0; i--) {
            x.cut(i, true);
            x.claim(i);
            all |= 1 << i;
            CHECK.due("CLAIMING", x.look(15), all);
        }
        x.tick(50);
        CHECK.due("CLAIMING", x.look(15), 0);
        CHECK.due("BEACONING", x.look(16), 255);
        for (int i = 0; i < 8; i++) {
            x.cut(i, false);
        }
        x.tick(22);
        CHECK.due("BEACONING", x.look(16), 0);
        CHECK.due("REPEATING", x.look(17), 255);
        x.begin(8);
        x.claim(0);
        x.tick(30);
        CHECK.due("UP", x.look(14), 255);
        x.out(0, true);
        x.out(7, true);
        CHECK.due("UP", x.look(14), 126);
        CHECK.due("OUT", x.look(20), 129);
    }

    /** "23 the least TARGET of those that are UP (NONE)" */
    private static void leastTargetOfThoseThatAreUp() {
        EarlyToken x = new EarlyToken();
        CHECK.due("none", x.look(23), -1);
        x.claim(0);
        CHECK.due("none", x.look(23), -1);
        x.tick(6);
        CHECK.due("0", x.look(23), 60);
        x.tick(20);
        CHECK.due("all", x.look(23), 60);
        x.bid(0, 33);
        CHECK.due("a bid is no TARGET", x.look(23), 60);
        x.claim(0);
        x.out(1, true);
        CHECK.due("2 alone", x.look(23), 60);
        x.out(1, false);
        x.tick(6);
        CHECK.due("0 has won", x.look(23), 33);
    }

    /** "22 the longest ROUND TRIP of all" */
    private static void longestRoundTripOfAll() {
        CHECK.due("none", new EarlyToken().look(22), 0);
        CHECK.due("none", two(11).look(22), 0);
        CHECK.due("of 0", two(12).look(22), 4);
        EarlyToken x = two(13);
        x.frame(1, 0, 1, 5);
        x.tick(7);
        CHECK.due("not yet", x.look(22), 4);
        x.tick(1);
        CHECK.due("of 0", x.look(22), 9);
        CHECK.station(x, 1, 23, 4);
        x.tick(5);
        CHECK.station(x, 1, 23, 9);
        x.frame(1, 0, 1, 7);
        x.tick(10);
        CHECK.due("of 0", x.look(22), 11);
    }

    /** "false if there is none" */
    private static void noImage() {
        CHECK.refused("none", EarlyToken::new, x -> x.image(false));
        CHECK.refused("none", () -> two(20), x -> x.image(false));
        EarlyToken x = new EarlyToken();
        CHECK.yes("taken of nothing", x.image(true));
        CHECK.yes("gone back to", x.image(false));
        CHECK.unchanged("an image that is taken", () -> two(20), y -> y.image(true) ? 1 : 0);
    }

    /** "gone back to it may be more than once" */
    private static void imageMoreThanOnce() {
        CHECK.same("three times", () -> two(20), () -> {
            EarlyToken x = two(20);
            x.image(true);
            for (int i = 0; i < 3; i++) {
                disturb(x);
                CHECK.yes("gone back to", x.image(false));
            }
            return x;
        });
        CHECK.same("the later one", () -> two(33), () -> {
            EarlyToken x = two(20);
            x.image(true);
            x.tick(13);
            CHECK.yes("taken anew", x.image(true));
            disturb(x);
            CHECK.yes("gone back to", x.image(false));
            return x;
        });
    }

    /** All that was is gone, and every field of it has another value. */
    private static void disturb(EarlyToken x) {
        x.begin(8);
        for (int i = 0; i < 8; i++) {
            x.bid(i, 100 + i);
            x.share(i, 1 + i);
            x.stream(i, 23 + i, 11 + i);
            x.delay(i, 3 + i % 3);
            x.frame(i, (i + 1) % 8, 3, 10);
            x.frame(i, (i + 2) % 8, 2, 9);
        }
        x.set(1, 60);
        x.set(2, 7);
        x.set(4, 3);
        x.state(12345);
        x.claim(5);
        x.tick(300);
        x.doubled(3);
        x.tick(11);
        x.cut(4, true);
        // Long enough for claims in vain, and beacons, so that all have heard one then.
        x.tick(300);
    }

    private static void image(String what, Supplier<EarlyToken> made) {
        CHECK.same("the image of " + what, made, () -> {
            EarlyToken x = made.get();
            CHECK.yes("taken", x.image(true));
            disturb(x);
            CHECK.yes("gone back to", x.image(false));
            return x;
        });
    }

    /** "all that is and was told, as it was when it was taken" */
    private static void imageOfQuiet() {
        image("nothing", EarlyToken::new);
        for (int n = 2; n <= 8; n++) {
            int stations = n;
            image("stations", () -> {
                EarlyToken x = new EarlyToken();
                x.begin(stations);
                return x;
            });
        }
    }

    private static void imageOfClaims() {
        for (int t = 1; t < 70; t += 3) {
            int ticks = t;
            image("claims", () -> {
                EarlyToken x = new EarlyToken();
                x.set(1, 90);
                x.set(2, 50);
                x.bid(2, 55);
                x.cut(1, true);
                x.claim(0);
                x.tick(ticks);
                x.claim(2);
                x.tick(ticks % 5 + 1);
                return x;
            });
        }
    }

    private static void imageOfBeacons() {
        for (int t = 49; t < 110; t += 4) {
            int ticks = t;
            image("beacons", () -> {
                EarlyToken x = new EarlyToken();
                x.begin(4);
                x.set(1, 50);
                x.set(2, 47);
                x.cut(3, true);
                x.claim(1);
                x.tick(ticks);
                x.cut(1, true);
                return x;
            });
        }
    }

    private static void imageOfHolds() {
        for (int t = 18; t < 60; t++) {
            int ticks = t;
            image("holds", () -> {
                EarlyToken x = two(13);
                x.share(0, 30);
                x.stream(0, 20, 21);
                x.share(1, 3);
                x.stream(1, 30, 7);
                x.frame(0, 1, 2, 7);
                x.frame(0, 1, 3, 9);
                x.frame(1, 0, 1, 3);
                x.tick(ticks - 13);
                return x;
            });
        }
    }

    /** What counts for nothing in the end does so when it is gone back to, and what counts, counts. */
    private static void imageOfWhatCountsForNothing() {
        EarlyToken x = two(8);
        x.share(0, 30);
        x.stream(0, 20, 15);
        x.tick(22);
        x.image(true);
        x.stream(0, 34, 5);
        CHECK.yes("gone back to", x.image(false));
        x.tick(5);
        CHECK.station(x, 0, 16, 1);
        x.image(false);
        x.stream(0, 34, 5);
        x.image(true);
        x.tick(50);
        CHECK.yes("gone back to", x.image(false));
        x.tick(5);
        CHECK.station(x, 0, 16, 0);
        CHECK.station(x, 0, 11, 5);
    }

    private static void imageOfTokens() {
        for (int t = 1; t < 140; t += 6) {
            int ticks = t;
            image("a lost token", () -> {
                EarlyToken x = two(12);
                x.lose();
                x.tick(ticks);
                x.doubled(1);
                x.doubled(1);
                return x;
            });
        }
        image("a hundred", () -> {
            EarlyToken x = two(12);
            for (int i = 0; i < 102; i++) {
                x.doubled(0);
            }
            return x;
        });
    }

    private static void imageOfWhatWasTold() {
        image("all that can be told", () -> {
            EarlyToken x = new EarlyToken();
            x.begin(5);
            for (int i = 0; i < 6; i++) {
                x.set(i, i == 1 ? 333 : 12 + i);
            }
            for (int i = 0; i < 5; i++) {
                x.delay(i, 5 - i);
                x.bid(i, 200 + i);
                x.share(i, 10 + i);
                x.stream(i, 50 + i, 20 + i);
                for (int k = 0; k < 8; k++) {
                    x.frame(i, (i + 1 + k % 4) % 5, 1 + k % 3, 1 + k);
                }
            }
            x.state(-99);
            x.cut(2, true);
            x.cut(4, true);
            x.out(1, true);
            x.out(3, true);
            return x;
        });
    }

    private static void imageOfRecords() {
        for (int t : new int[] {50, 150, 600, 1500}) {
            int ticks = t;
            image("the book and the log", () -> {
                EarlyToken x = two(7);
                x.stream(0, 20, 3);
                x.stream(1, 25, 2);
                x.share(1, 2);
                pass(x, ticks);
                return x;
            });
        }
    }

    private static void askingChangesNothing() {
        CHECK.unchanged("asking", () -> two(33), x -> {
            long sum = x.suspects() + x.least() + x.load(7) + x.mean(0) + x.message(0, 0) + x.book(0, 1) + x.log(0, 1);
            for (int i = -1; i < 9; i++) {
                sum += x.look(i) + x.count(i) + x.station(0, i) + x.link(0, i) + x.queued(0, 0, i) + x.sure(i);
                sum += x.dealt(i, 0) + x.fits(i) + x.found(i) + x.would(5, i) + x.asked(0, i, 1, 1);
            }
            return sum;
        });
    }
}
