/** In thought: promises 28 to 30. What is thought must come so, and nothing of the thought must stay. */
public final class ThoughtTest {
    private static final Check CHECK = new Check("ThoughtTest");

    public static void main(String[] args) {
        found();
        foundIsWhatComes();
        foundByAClaimOnItsWay();
        notFound();
        would();
        wouldIsWhatComes();
        asked();
        askedIsWhatComes();
        askedInVain();
        askedTwoThousandTicks();
        nothingStays();
        beyondTheLastTick();
        CHECK.end();
    }

    private static EarlyToken busy(int n) {
        EarlyToken x = new EarlyToken();
        x.begin(n);
        for (int i = 0; i < n; i++) {
            x.bid(i, 90 + 7 * i);
            x.share(i, 3 + i);
            x.stream(i, 50 + 13 * i, 4 + 2 * i);
        }
        x.state(n);
        x.claim(n - 1);
        x.tick(60);
        x.storm(12);
        x.tick(7 * n);
        return x;
    }

    /** Promise 28. */
    private static void found() {
        EarlyToken x = new EarlyToken();
        x.begin(2);
        CHECK.due("no token", x.found(0), -1);
        x.claim(0);
        CHECK.due("no token", x.found(0), -1);
        x.tick(10);
        CHECK.due("0 claims at 128, wins at 132, 1 is up at 134", x.found(0), 124);
        CHECK.due("whose", x.found(1), 0);
        CHECK.due("found(2)", x.found(2), -1);
        CHECK.due("found(-1)", x.found(-1), -1);
        CHECK.due("the token is there", x.look(13), 1);
        x.lose();
        CHECK.due("no token", x.found(0), -1);
        CHECK.due("no token", x.found(1), -1);
    }

    private static void foundIsWhatComes() {
        for (int n = 2; n <= 8; n++) {
            EarlyToken x = busy(n);
            if (n > 4) {
                x.out(1, true);
                x.tick(3);
            }
            int in = ~x.look(20) & (1 << n) - 1;
            int ticks = x.found(0);
            int whose = x.found(1);
            CHECK.yes("a token is there", x.look(13) > 0 && ticks > 1);
            int wins = x.count(4);
            x.lose();
            int soFar = 0;
            for (; soFar + 100 < ticks; soFar += 100) {
                x.tick(100);
            }
            x.tick(ticks - 1 - soFar);
            CHECK.no("all up by one just before", x.look(14) == in && allBy(x, whose) && x.count(4) > wins);
            x.tick(1);
            CHECK.due("all up then", x.look(14), in);
            CHECK.yes("by that one", allBy(x, whose));
            CHECK.yes("that won since", x.count(4) > wins);
        }
    }

    private static boolean allBy(EarlyToken x, int whose) {
        boolean all = true;
        for (int i = 0; i < x.look(6); i++) {
            all &= x.station(i, 26) == 1 || x.station(i, 24) == whose;
        }
        return all;
    }

    private static void foundByAClaimOnItsWay() {
        EarlyToken x = new EarlyToken();
        x.begin(2);
        x.bid(1, 40);
        x.claim(0);
        x.tick(15);
        x.doubled(0);
        x.claim(1);
        CHECK.due("1 wins at 19, 0 is up at 21", x.found(0), 6);
        CHECK.due("whose", x.found(1), 1);
    }

    private static void notFound() {
        EarlyToken x = new EarlyToken();
        x.claim(0);
        x.tick(30);
        x.cut(1, true);
        CHECK.due("no claim gets round", x.found(0), -1);
        CHECK.due("no claim gets round", x.found(1), -1);
        x.cut(1, false);
        x.out(2, true);
        CHECK.yes("round one that is out", x.found(0) > 0);
    }

    /** Promise 29. */
    private static void would() {
        EarlyToken x = new EarlyToken();
        CHECK.due("would(0, 0)", x.would(0, 0), -1);
        CHECK.due("would(301, 0)", x.would(301, 0), -1);
        CHECK.due("would(-1, 0)", x.would(-1, 0), -1);
        CHECK.due("would(1, -1)", x.would(1, -1), -1);
        CHECK.due("would(1, 6)", x.would(1, 6), -1);
        CHECK.due("none up", x.would(300, 0), 0);
        x.claim(0);
        CHECK.due("none yet", x.would(5, 0), 0);
        CHECK.due("0 alone", x.would(6, 0), 1);
        CHECK.due("0 and 1", x.would(8, 0), 2);
        CHECK.due("all", x.would(10, 0), 3);
        CHECK.due("a claim", x.would(5, 1), 1);
        CHECK.due("no token", x.would(5, 5), 0);
        CHECK.due("a token", x.would(6, 5), 1);
        CHECK.due("no trip", x.would(17, 4), 0);
        CHECK.due("a trip", x.would(18, 4), 6);
        x.stream(2, 20, 1);
        CHECK.due("none missed", x.would(39, 2), 0);
        CHECK.due("missed", x.would(40, 2), 1);
        CHECK.due("missed", x.would(300, 2), 14);
        x.frame(0, 1, 1, 4);
        CHECK.due("not yet", x.would(21, 3), 0);
        CHECK.due("delivered", x.would(22, 3), 1);
        CHECK.due("it holds the token", x.would(20, 1), 0);
        CHECK.due("it holds the token", x.would(20, 5), 1);
    }

    private static void wouldIsWhatComes() {
        for (int n = 2; n <= 8; n++) {
            EarlyToken x = busy(n);
            x.doubled(0);
            int ticks = 40 * n - 20;
            int[] thought = new int[6];
            for (int what = 0; what < 6; what++) {
                thought[what] = x.would(ticks, what);
            }
            x.tick(ticks);
            int missed = 0;
            int delivered = 0;
            for (int i = 0; i < n; i++) {
                missed += x.station(i, 15);
                delivered += x.station(i, 17);
            }
            CHECK.due("UP", thought[0], Integer.bitCount(x.look(14)));
            CHECK.due("MESSAGES", thought[1], x.look(12));
            CHECK.due("MISSED", thought[2], missed);
            CHECK.due("DELIVERED", thought[3], delivered);
            CHECK.due("longest ROUND TRIP", thought[4], x.look(22));
            CHECK.due("TOKENS", thought[5], x.look(13));
            CHECK.yes("something is delivered", delivered > 0);
        }
    }

    /** Promise 30. */
    private static void asked() {
        EarlyToken x = new EarlyToken();
        x.claim(0);
        x.tick(18);
        CHECK.due("it comes at 20, 3 long, 2 on its way", x.asked(1, 2, 1, 3), 7);
        CHECK.due("two links", x.asked(1, 0, 1, 3), 9);
        x.frame(1, 2, 2, 5);
        CHECK.due("behind one of a greater priority", x.asked(1, 2, 1, 3), 12);
        CHECK.due("behind one of the same", x.asked(1, 2, 2, 3), 12);
        CHECK.due("ahead of one of a lesser", x.asked(1, 2, 3, 3), 7);
        CHECK.due("to itself", x.asked(1, 1, 1, 3), -1);
        CHECK.due("none such", x.asked(3, 1, 1, 3), -1);
        CHECK.due("none such", x.asked(-1, 1, 1, 3), -1);
        CHECK.due("to none", x.asked(1, 3, 1, 3), -1);
        CHECK.due("to none", x.asked(1, -1, 1, 3), -1);
        CHECK.due("priority 0", x.asked(1, 2, 0, 3), -1);
        CHECK.due("priority 4", x.asked(1, 2, 4, 3), -1);
        CHECK.due("length 0", x.asked(1, 2, 1, 0), -1);
        CHECK.due("length 11", x.asked(1, 2, 1, 11), -1);
        for (int i = 0; i < 7; i++) {
            x.frame(1, 2, 1, 1);
        }
        CHECK.due("a full line", x.asked(1, 2, 3, 1), -1);
    }

    private static void askedIsWhatComes() {
        for (int n = 2; n <= 8; n++) {
            for (int priority = 1; priority <= 3; priority++) {
                for (int i = 0; i < n; i++) {
                    EarlyToken x = busy(n);
                    if (x.station(i, 12) < 8) {
                        comesAsAsked(x, i, (i + 1 + priority % (n - 1)) % n, priority);
                    }
                }
            }
        }
    }

    private static void comesAsAsked(EarlyToken x, int station, int to, int priority) {
        int waits = x.asked(station, to, priority, 6);
        int delays = 0;
        for (int link = station; link != to; link = (link + 1) % x.look(6)) {
            delays += x.link(link, 0);
        }
        x.frame(station, to, priority, 6);
        pass(x, waits - delays - 1);
        int delivered = x.station(station, 17);
        int together = x.station(station, 19);
        x.tick(1);
        CHECK.due("DELIVERED just then", x.station(station, 17), delivered + 1);
        CHECK.due("waited", x.station(station, 19) - together, waits);
    }

    private static void pass(EarlyToken x, int ticks) {
        for (int left = ticks; left > 0; left -= 300) {
            x.tick(Math.min(300, left));
        }
    }

    private static void askedInVain() {
        EarlyToken x = new EarlyToken();
        CHECK.due("nobody claims", x.asked(0, 1, 1, 1), -1);
        x.claim(0);
        x.tick(23);
        CHECK.due("the token comes at 24", x.asked(0, 2, 1, 1), 1 + 1 + 4);
        x.cut(1, true);
        CHECK.due("the token comes, the frame is lost", x.asked(0, 2, 1, 1), -1);
        CHECK.due("that to 1 is not", x.asked(0, 1, 1, 1), 1 + 1 + 2);
        x.cut(1, false);
        x.out(2, true);
        CHECK.due("to one that is out", x.asked(0, 2, 1, 1), -1);
        CHECK.due("of one that is out", x.asked(2, 0, 1, 1), -1);
        x.set(3, 500);
        CHECK.due("its limit is never less than what is left", x.asked(0, 1, 1, 1), -1);
    }

    /** No token is there, so that all must wait for a claim first; then longer frames go ahead. */
    private static void askedTwoThousandTicks() {
        EarlyToken x = new EarlyToken();
        x.begin(8);
        for (int i = 0; i < 8; i++) {
            x.bid(i, 500);
        }
        for (int i = 0; i < 8; i++) {
            x.delay(i, 20);
        }
        x.set(0, 50);
        x.claim(0);
        x.tick(300);
        x.tick(300);
        x.tick(20);
        x.lose();
        for (int i = 0; i < 8; i++) {
            x.frame(1, 2, 3, 50);
        }
        x.frame(2, 3, 3, 50);
        x.frame(2, 3, 3, 50);
        int length = 1;
        int waits = x.asked(2, 3, 1, 1);
        CHECK.yes("some 2000 ticks and a delay: " + waits, waits > 1990 && waits < 2020);
        for (; waits < 2020 && length < 50; length++) {
            int longer = x.asked(2, 3, 1, length + 1);
            CHECK.due("a tick longer", longer, waits + 1);
            waits = longer;
        }
        CHECK.due("2000 ticks and a delay", waits, 2020);
        CHECK.due("2001 ticks", x.asked(2, 3, 1, length + 1), -1);
    }

    private static void nothingStays() {
        CHECK.unchanged("found", () -> busy(5), x -> x.found(0));
        CHECK.unchanged("would", () -> busy(5), x -> x.would(300, 3));
        CHECK.unchanged("asked", () -> busy(5), x -> x.asked(0, 1, 1, 1));
    }

    private static void beyondTheLastTick() {
        EarlyToken x = new EarlyToken();
        x.claim(0);
        for (int i = 0; i < 100; i++) {
            x.tick(300);
        }
        CHECK.due("the last tick", x.look(7), 30000);
        CHECK.due("would(1, 0)", x.would(1, 0), -1);
        CHECK.yes("found", x.found(0) > 0);
        CHECK.due("whose", x.found(1), 0);
        CHECK.yes("asked", x.asked(0, 1, 1, 1) > 0);
        CHECK.due("the last tick", x.look(7), 30000);
    }
}
