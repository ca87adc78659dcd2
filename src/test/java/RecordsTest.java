/** The book, the log, the counts, the image, the look: promises 31 to 35. */
public final class RecordsTest {
    private static final Check CHECK = new Check("RecordsTest");

    public static void main(String[] args) {
        book();
        log();
        count();
        look();
        imageOfNothing();
        image();
        imageOfARunningRing();
        imageStaysOverBegin();
        CHECK.end();
    }

    /** Promise 31. */
    private static void book() {
        EarlyToken x = new EarlyToken();
        CHECK.due("no line", x.book(0, 0), -1);
        x.claim(0);
        x.tick(12);
        CHECK.due("one line", x.book(0, 1), 12);
        CHECK.due("no other", x.book(1, 1), -1);
        CHECK.due("no such", x.book(-1, 1), -1);
        CHECK.due("another what", x.book(0, 5), -1);
        CHECK.due("another what", x.book(0, -1), -1);
        x.tick(2 * 38);
        CHECK.due("39 lines", x.look(21), 39);
        CHECK.due("the first", x.book(38, 1), 12);
        CHECK.due("no more", x.book(39, 1), -1);
        x.tick(2);
        CHECK.due("the first", x.book(39, 1), 12);
        x.tick(2);
        CHECK.due("all that came", x.look(21), 41);
        CHECK.due("the second", x.book(39, 1), 14);
        CHECK.due("of 1", x.book(39, 0), 1);
        CHECK.due("the latest", x.book(0, 1), 92);
        CHECK.due("of 1", x.book(0, 0), 1);
        CHECK.due("no more than 40", x.book(40, 1), -1);
        x.tick(300);
        CHECK.due("the latest", x.book(0, 1), 392);
        CHECK.due("40 back", x.book(39, 1), 392 - 78);
    }

    /** Promise 32. */
    private static void log() {
        EarlyToken x = new EarlyToken();
        x.stream(0, 20, 3);
        x.stream(1, 30, 4);
        CHECK.due("no line", x.log(0, 0), -1);
        x.tick(59);
        CHECK.due("one line", x.log(0, 0), 40);
        CHECK.due("MISSED", x.log(0, 1), 6);
        CHECK.due("of 0", x.log(0, 2), 0);
        CHECK.due("REST", x.log(0, 3), 3);
        x.tick(1);
        CHECK.due("the latest is of 1", x.log(0, 2), 1);
        CHECK.due("REST", x.log(0, 3), 4);
        CHECK.due("before it of 0", x.log(1, 2), 0);
        CHECK.due("three", x.look(18), 3);
        CHECK.due("no such", x.log(3, 0), -1);
        CHECK.due("no such", x.log(-1, 0), -1);
        CHECK.due("another what", x.log(0, 4), -1);
        CHECK.due("another what", x.log(0, -1), -1);
        x.tick(300);
        x.tick(300);
        x.tick(60);
        CHECK.due("all that came", x.look(18), 35 + 23);
        CHECK.due("the first", x.log(57, 0), 40);
        x.tick(40);
        CHECK.due("all that came", x.look(18), 37 + 24);
        CHECK.due("the second now", x.log(59, 0), 60);
        CHECK.due("no more than 60", x.log(60, 0), -1);
        CHECK.due("the latest", x.log(0, 0), 760);
    }

    /** Promise 33. */
    private static void count() {
        EarlyToken x = new EarlyToken();
        for (int what = 0; what < 8; what++) {
            CHECK.due("nothing yet", x.count(what), 0);
        }
        CHECK.due("count(8)", x.count(8), -1);
        CHECK.due("count(-1)", x.count(-1), -1);
        x.share(0, 2);
        x.stream(0, 20, 2);
        x.claim(0);
        x.tick(18);
        x.frame(0, 1, 1, 5);
        x.frame(1, 2, 1, 4);
        x.doubled(1);
        CHECK.due("three claims, a token seven times, one doubled", x.count(0), 3 + 7 + 1);
        x.tick(22);
        CHECK.due("TICKS of sending: 4 of 1, 5 and 2 of 0", x.count(7), 4 + 5 + 2);
        CHECK.due("it came to 2 while 1 held one, and was one more", x.count(2) + x.look(13), 2);
        CHECK.due("WON", x.count(4), 1);
        CHECK.due("began", x.count(5), 3);
        CHECK.due("no beacons", x.count(6), 0);
        CHECK.due("none lost", x.count(1), 0);
    }

    /** Promise 35. */
    private static void look() {
        EarlyToken x = new EarlyToken();
        x.begin(5);
        x.set(0, 8);
        x.set(1, 55);
        x.set(2, 6);
        x.set(3, 1);
        x.set(4, 2);
        x.set(5, 3);
        x.delay(1, 4);
        x.bid(2, 50);
        x.share(1, 5);
        x.share(3, 6);
        x.state(77);
        x.out(3, true);
        x.claim(2);
        x.tick(10);
        int[] want = {8, 55, 6, 1, 2, 3, 5, 10, 12, 50, 5, 30, 2, 0, 0, 23, 0, 0, 4, 77, 8, 0, 0, -1};
        for (int what = 0; what < want.length; what++) {
            CHECK.due("look(" + what + ")", x.look(what), want[what]);
        }
        x.tick(2);
        CHECK.due("UP", x.look(14), 4);
        CHECK.due("CLAIMING", x.look(15), 19);
        CHECK.due("TOKENS", x.look(13), 1);
        CHECK.due("TARGET", x.look(23), 50);
        CHECK.due("log", x.look(18), 5);
        CHECK.due("look(24)", x.look(24), -100000);
        CHECK.due("look(-1)", x.look(-1), -100000);
        CHECK.due("look(2147483647)", x.look(Integer.MAX_VALUE), -100000);
    }

    private static void imageOfNothing() {
        EarlyToken x = new EarlyToken();
        x.claim(0);
        CHECK.no("there is none", x.image(false));
        CHECK.due("nothing is done", x.station(0, 0), 2);
        CHECK.yes("taken", x.image(true));
        CHECK.yes("gone back to", x.image(false));
    }

    /** Promise 34: all that was told. */
    private static void image() {
        for (int rounds = 1; rounds <= 3; rounds++) {
            int many = rounds;
            CHECK.different("told anew", () -> told(1), () -> {
                EarlyToken x = told(1);
                tell(x, 1 + many);
                return x;
            });
            CHECK.same("gone back to, " + rounds + " times", () -> told(1), () -> goneBackTo(many));
        }
        CHECK.same("the later image", () -> told(9), () -> {
            EarlyToken x = goneBackTo(2);
            x.begin(3);
            tell(x, 9);
            CHECK.yes("taken", x.image(true));
            tell(x, 10);
            CHECK.yes("gone back to", x.image(false));
            return x;
        });
    }

    private static EarlyToken told(int v) {
        EarlyToken x = new EarlyToken();
        tell(x, v);
        return x;
    }

    private static EarlyToken goneBackTo(int times) {
        EarlyToken x = told(1);
        CHECK.yes("taken", x.image(true));
        for (int i = 0; i < times; i++) {
            tell(x, 2 + i);
            CHECK.yes("gone back to", x.image(false));
        }
        return x;
    }

    private static void tell(EarlyToken x, int v) {
        x.set(0, v);
        x.set(1, 100 + v);
        x.set(2, 10 + v);
        x.set(3, v);
        x.set(4, 2 * v);
        x.set(5, 3 * v);
        x.delay(v % 3, 1 + v);
        x.cut(0, v % 2 == 0);
        x.bid(0, 60 + v);
        x.share(1, v);
        x.stream(2, 30 + v, v);
        x.frame(0, 1, 1 + v % 3, 1);
        x.state(v * 1000);
        x.claim(1);
        x.tick(v);
        x.out(v % 3, v % 2 == 1);
    }

    /** All goes on from the image as it went on after it was taken. */
    private static void imageOfARunningRing() {
        for (int n = 2; n <= 8; n++) {
            for (int k = 0; k < 12; k++) {
                int stations = n;
                int moment = k;
                CHECK.same("as before", () -> {
                    EarlyToken x = running(stations, moment);
                    goOn(x, moment);
                    return x;
                }, () -> {
                    EarlyToken x = running(stations, moment);
                    x.image(true);
                    goOn(x, moment);
                    x.tick(50);
                    x.begin(2 + moment % 7);
                    x.tick(33);
                    x.image(false);
                    goOn(x, moment);
                    return x;
                });
            }
        }
    }

    private static EarlyToken running(int n, int moment) {
        EarlyToken x = new EarlyToken();
        x.begin(n);
        for (int i = 0; i < n; i++) {
            x.bid(i, 90 + 9 * i);
            x.share(i, 3 + i);
            x.stream(i, 40 + 11 * i, 5 + 2 * i);
        }
        x.set(1, 60);
        x.state(n);
        x.claim(n - 1);
        x.tick(40 + moment);
        x.storm(20);
        x.tick(11 + 3 * moment);
        x.doubled(0);
        x.cut(1, moment % 3 == 2);
        return x;
    }

    private static void goOn(EarlyToken x, int moment) {
        x.tick(1 + 20 * moment);
        x.storm(5);
        x.tick(90);
        x.lose();
        x.tick(200);
    }

    private static void imageStaysOverBegin() {
        EarlyToken x = new EarlyToken();
        x.begin(6);
        x.bid(5, 99);
        x.image(true);
        x.begin(2);
        CHECK.due("n", x.look(6), 2);
        CHECK.yes("it is still there", x.image(false));
        CHECK.due("n", x.look(6), 6);
        CHECK.due("bid", x.station(5, 1), 99);
    }
}
