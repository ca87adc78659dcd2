import java.util.function.IntPredicate;
import java.util.function.Supplier;

/**
 * What can be told, sentence by sentence of the part "Terms" 1 and 4 (the draws) and of the promises 1 to 12: the last
 * value that is in, the first that is out, and that nothing has changed by what is refused.
 */
public final class EdgesOfTellingTest {
    private static final Check CHECK = new Check("EdgesOfTellingTest");
    private static final int MIN = Integer.MIN_VALUE;
    private static final int MAX = Integer.MAX_VALUE;

    public static void main(String[] args) {
        threeStationsAllQuiet();
        twoToEightCanBeTold();
        allIsAsAtFirstButN();
        theImageStays();
        whatCanBeSet();
        eachCanBeSetFromTo();
        mostWithinFloor();
        whatIsNotMostIsNotBoundByFloor();
        delaysOneToTwenty();
        delayWithinFloor();
        delayOfALinkThatIs();
        cutOfALinkThatIs();
        cutIfItIsNotSo();
        bidsTenToFiveHundred();
        bidWithinFloor();
        bidOfAStationThatIs();
        sharesZeroToTwoHundred();
        shareWithinFloor();
        shareOfAStationThatIs();
        floorIsOfThoseNotOut();
        floorIsOfAllBids();
        floorIsOfTargetsToo();
        nothingByWhichItWouldNotBeSo();
        periodsTwentyToNineHundredNinetyNine();
        lengthsOneToNinetyNine();
        withoutAStreamTheLengthIsNotAsked();
        streamOfAStationThatIs();
        restIsZeroByATold();
        eightFramesAtMost();
        oneThatIsSentIsInTheLine();
        toAnotherStation();
        priorityOneToThree();
        lengthOneToMost();
        mostAsItWasTold();
        twoAtLeastAreNotOut();
        outIfItIsNotSo();
        inAgainWithinFloor();
        inAgainItIsQuiet();
        stateIsAnyInt();
        stateWraps();
        drawIsTheHighestBits();
        stormOneToThirty();
        stormOfAllStations();
        stormOfFullLines();
        stormOfLengthsUpToMost();
        CHECK.end();
    }

    /** Four stations with all they can have, so that a change can be seen. */
    private static EarlyToken busy() {
        EarlyToken x = wide(4);
        for (int i = 0; i < 4; i++) {
            x.bid(i, 300 + i);
            x.share(i, 4 + i);
            x.stream(i, 30 + 7 * i, 6 + i);
        }
        x.set(3, 11);
        x.state(77);
        x.claim(2);
        x.tick(60);
        x.storm(9);
        x.tick(21);
        x.out(3, true);
        return x;
    }

    /** So many stations that bid the most, so that FLOOR leaves room. */
    private static EarlyToken wide(int n) {
        EarlyToken x = new EarlyToken();
        x.begin(n);
        for (int i = 0; i < n; i++) {
            x.bid(i, 500);
        }
        return x;
    }

    private static void in(String what, IntPredicate call, int... values) {
        for (int v : values) {
            CHECK.yes(what + " " + v, call.test(v));
        }
    }

    private interface Told {
        boolean of(EarlyToken x, int v);
    }

    private static void out(String what, Supplier<EarlyToken> made, Told call, int... values) {
        for (int v : values) {
            CHECK.refused(what + " " + v, made, x -> call.of(x, v));
        }
    }

    /** "Three STATIONS, all QUIET." */
    private static void threeStationsAllQuiet() {
        EarlyToken x = new EarlyToken();
        CHECK.due("n", x.look(6), 3);
        for (int i = 0; i < 3; i++) {
            CHECK.due("quiet", x.station(i, 0), 0);
        }
        CHECK.due("no fourth", x.station(3, 0), -1);
        CHECK.due("nothing on its way", x.look(12), 0);
        CHECK.no("no image", x.image(false));
        CHECK.same("an object is as one that is begun", EarlyToken::new, () -> {
            EarlyToken y = new EarlyToken();
            y.begin(3);
            return y;
        });
    }

    /** "n 3 at first; 2 .. 8 can be told" */
    private static void twoToEightCanBeTold() {
        out("begin", EdgesOfTellingTest::busy, (x, v) -> x.begin(v), MIN, -8, -1, 0, 1, 9, 10, MAX);
        for (int n = 2; n <= 8; n++) {
            EarlyToken x = new EarlyToken();
            CHECK.yes("begin", x.begin(n));
            CHECK.due("n", x.look(6), n);
            CHECK.due("the last station", x.station(n - 1, 0), 0);
            CHECK.due("none behind it", x.station(n, 0), -1);
            CHECK.due("the last link", x.link(n - 1, 0), 2);
            CHECK.due("none behind it", x.link(n, 0), -1);
            CHECK.yes("claim", x.claim(n - 1));
            CHECK.no("claim", x.claim(n));
            x.tick(2);
            CHECK.due("the last link leads to 0", x.station(0, 0), 2);
            CHECK.due("and to no other one", x.look(15), 1 | 1 << n - 1);
        }
    }

    /** "all is as at first then but n and THE IMAGE" */
    private static void allIsAsAtFirstButN() {
        for (int n = 2; n <= 8; n++) {
            int stations = n;
            CHECK.same("begin(" + n + ")", () -> {
                EarlyToken x = new EarlyToken();
                x.begin(stations);
                return x;
            }, () -> {
                EarlyToken x = wide(8);
                x.share(7, 3);
                x.delay(7, 5);
                x.cut(6, true);
                x.stream(7, 20, 9);
                x.frame(7, 0, 1, 1);
                x.claim(7);
                x.out(6, true);
                x.state(5);
                x.set(1, 50);
                x.set(5, 9);
                x.tick(299);
                x.begin(stations);
                return x;
            });
        }
    }

    private static void theImageStays() {
        EarlyToken x = new EarlyToken();
        x.begin(5);
        CHECK.no("there is none by begin", x.image(false));
        x.image(true);
        x.begin(2);
        CHECK.yes("it stays by begin", x.image(false));
        CHECK.due("n", x.look(6), 5);
    }

    /** "Can be told: 0 MOST .. 3, 4, 5 LIMIT" */
    private static void whatCanBeSet() {
        for (int what : new int[] {MIN, -1, 6, 7, MAX}) {
            CHECK.refused("set " + what, EdgesOfTellingTest::busy, x -> x.set(what, 50));
            CHECK.refused("set " + what, EdgesOfTellingTest::busy, x -> x.set(what, 5));
        }
        for (int what = 0; what < 6; what++) {
            EarlyToken x = new EarlyToken();
            CHECK.yes("set " + what, x.set(what, what == 1 ? 51 : 13));
            for (int other = 0; other < 6; other++) {
                int first = new int[] {10, 200, 20, 0, 0, 0}[other];
                CHECK.due("look(" + other + ")", x.look(other), other != what ? first : what == 1 ? 51 : 13);
            }
        }
    }

    /** "0 MOST 1 .. 50, 1 PATIENCE 50 .. 999, 2 REPEAT 5 .. 50, 3, 4, 5 LIMIT: 0 .. 500" */
    private static void eachCanBeSetFromTo() {
        int[] least = {1, 50, 5, 0, 0, 0};
        int[] most = {50, 999, 50, 500, 500, 500};
        for (int i = 0; i < 6; i++) {
            int what = i;
            EarlyToken x = wide(3);
            in("set " + what, v -> x.set(what, v), least[what], least[what] + 1, most[what] - 1, most[what]);
            CHECK.due("look", x.look(what), most[what]);
            out("set " + what, EdgesOfTellingTest::busy, (y, v) -> y.set(what, v), MIN, -1, least[what] - 1,
                most[what] + 1, MAX);
        }
    }

    /** "all SHARES, LATENCY and MOST are no more than FLOOR: .. MOST by which it would not be so can't be told" */
    private static void mostWithinFloor() {
        EarlyToken x = new EarlyToken();
        CHECK.yes("6 and 50 are 56", x.set(0, 50));
        CHECK.yes("6 and 10 and 44 are 60", x.set(0, 10) && x.share(1, 44));
        CHECK.yes("again the same", x.set(0, 10));
        CHECK.refused("6 and 11 and 44", () -> sharing(44), y -> y.set(0, 11));
        CHECK.yes("6 and 9 and 44", x.set(0, 9));
        CHECK.due("MOST", x.look(0), 9);
    }

    private static EarlyToken sharing(int v) {
        EarlyToken x = new EarlyToken();
        x.share(1, v);
        return x;
    }

    private static void whatIsNotMostIsNotBoundByFloor() {
        EarlyToken x = beyondFloor();
        CHECK.yes("PATIENCE", x.set(1, 999));
        CHECK.yes("REPEAT", x.set(2, 50));
        CHECK.yes("LIMITS", x.set(3, 500) && x.set(4, 500) && x.set(5, 500));
        CHECK.yes("a stream", x.stream(0, 20, 99));
    }

    /** "DELAY 1 .. 20 TICKS" */
    private static void delaysOneToTwenty() {
        EarlyToken x = wide(3);
        in("delay", v -> x.delay(1, v), 1, 2, 19, 20);
        CHECK.due("DELAY", x.link(1, 0), 20);
        CHECK.due("the others stay", x.link(0, 0) + x.link(2, 0), 4);
        CHECK.due("LATENCY", x.look(8), 24);
        out("delay", EdgesOfTellingTest::busy, (y, v) -> y.delay(1, v), MIN, -1, 0, 21, MAX);
    }

    private static void delayWithinFloor() {
        EarlyToken x = sharing(41);
        CHECK.yes("9 and 10 and 41 are 60", x.delay(2, 5));
        CHECK.refused("10 and 10 and 41", () -> sharing(41), y -> y.delay(2, 6));
        CHECK.yes("one less elsewhere", x.delay(0, 1) && x.delay(2, 6));
        CHECK.no("one more elsewhere", x.delay(0, 2));
    }

    private static void delayOfALinkThatIs() {
        out("delay of link", EdgesOfTellingTest::busy, (x, link) -> x.delay(link, 3), MIN, -1, 4, 8, MAX);
        EarlyToken x = wide(8);
        in("delay of link", link -> x.delay(link, 3), 0, 7);
    }

    /** "false if it is so, or there is none such" */
    private static void cutOfALinkThatIs() {
        for (boolean is : new boolean[] {true, false}) {
            out("cut of link", EdgesOfTellingTest::busy, (x, link) -> x.cut(link, is), MIN, -1, 4, 8, 31, 32, MAX);
        }
        EarlyToken x = wide(8);
        in("cut of link", link -> x.cut(link, true), 0, 7);
        for (int i = 0; i < 8; i++) {
            CHECK.due("CUT", x.link(i, 1), i == 0 || i == 7 ? 1 : 0);
        }
    }

    private static void cutIfItIsNotSo() {
        CHECK.refused("whole already", EdgesOfTellingTest::busy, x -> x.cut(0, false));
        CHECK.refused("cut already", () -> {
            EarlyToken x = busy();
            x.cut(0, true);
            return x;
        }, x -> x.cut(0, true));
        EarlyToken x = busy();
        CHECK.yes("cut, whole, cut", x.cut(0, true) && x.cut(0, false) && x.cut(0, true));
    }

    /** "BID 10 .. 500" */
    private static void bidsTenToFiveHundred() {
        EarlyToken x = new EarlyToken();
        x.begin(2);
        x.set(0, 1);
        in("bid", v -> x.bid(1, v), 10, 11, 499, 500);
        CHECK.due("BID", x.station(1, 1), 500);
        out("bid", EdgesOfTellingTest::busy, (y, v) -> y.bid(1, v), MIN, -1, 0, 9, 501, MAX);
    }

    private static void bidWithinFloor() {
        EarlyToken x = sharing(20);
        CHECK.yes("6 and 10 and 20 are 36", x.bid(0, 36));
        CHECK.due("FLOOR", x.look(9), 36);
        CHECK.refused("35", () -> sharing(20), y -> y.bid(0, 35));
        CHECK.yes("another one's", x.bid(2, 36));
    }

    private static void bidOfAStationThatIs() {
        out("bid of", EdgesOfTellingTest::busy, (x, station) -> x.bid(station, 300), MIN, -1, 4, 8, MAX);
        EarlyToken x = wide(8);
        in("bid of", station -> x.bid(station, 300), 0, 7);
    }

    /** "a SHARE 0 .. 200" */
    private static void sharesZeroToTwoHundred() {
        EarlyToken x = wide(3);
        in("share", v -> x.share(1, v), 200, 199, 1, 0);
        CHECK.due("SHARE", x.station(1, 2), 0);
        out("share", EdgesOfTellingTest::busy, (y, v) -> y.share(1, v), MIN, -1, 201, MAX);
        out("share", () -> wide(3), (y, v) -> y.share(1, v), -1, 201);
    }

    private static void shareWithinFloor() {
        EarlyToken x = new EarlyToken();
        CHECK.yes("6 and 10 and 44 are 60", x.share(0, 44));
        CHECK.refused("45", EarlyToken::new, y -> y.share(0, 45));
        CHECK.refused("44 and 1", () -> sharing(44), y -> y.share(0, 1));
        CHECK.yes("43 and 1", x.share(0, 43) && x.share(2, 1));
        CHECK.due("all SHARES", x.look(10), 44);
        CHECK.due("SPARE isn't less by them", x.look(11), 44);
    }

    private static void shareOfAStationThatIs() {
        out("share of", EdgesOfTellingTest::busy, (x, station) -> x.share(station, 1), MIN, -1, 4, 8, MAX);
        EarlyToken x = wide(8);
        in("share of", station -> x.share(station, 1), 0, 7);
    }

    /** "FLOOR (of those that are not OUT, as SHARES, n below)" */
    private static void floorIsOfThoseNotOut() {
        EarlyToken x = new EarlyToken();
        x.bid(0, 40);
        CHECK.due("FLOOR", x.look(9), 40);
        x.share(0, 24);
        CHECK.yes("out", x.out(0, true));
        CHECK.due("FLOOR", x.look(9), 60);
        CHECK.due("all SHARES", x.look(10), 0);
        CHECK.due("SPARE", x.look(11), 44);
        CHECK.due("n", x.look(6), 3);
        CHECK.yes("a bid of one that is out", x.bid(0, 10));
        CHECK.yes("a share of one that is out", x.share(0, 200));
        CHECK.yes("of the others as ever", x.share(1, 44));
        CHECK.no("of the others as ever", x.share(2, 1));
        CHECK.no("of the others as ever", x.bid(2, 59));
        CHECK.no("beyond its bounds all the same", x.bid(0, 9));
        CHECK.no("beyond its bounds all the same", x.share(0, 201));
    }

    /** "the least of all BIDS" */
    private static void floorIsOfAllBids() {
        for (int i = 0; i < 3; i++) {
            EarlyToken x = new EarlyToken();
            x.bid(i, 33);
            CHECK.due("FLOOR by " + i, x.look(9), 33);
            x.bid(i, 500);
            CHECK.due("FLOOR by the others", x.look(9), 60);
        }
    }

    /** "and of TARGETS of all that are UP" */
    private static void floorIsOfTargetsToo() {
        EarlyToken x = new EarlyToken();
        x.claim(1);
        x.bid(0, 400);
        x.bid(1, 400);
        x.bid(2, 400);
        x.tick(5);
        CHECK.due("claiming: its bid counts for nothing", x.look(9), 400);
        x.tick(1);
        CHECK.due("1 is up", x.look(9), 60);
        CHECK.refused("too much for the target", EdgesOfTellingTest::targetOfSixty, y -> y.share(0, 45));
        CHECK.yes("just enough", x.share(0, 44));
        x.claim(1);
        CHECK.due("it is up no more", x.look(9), 400);
        EarlyToken z = targetOfSixty();
        z.out(1, true);
        CHECK.due("it is out", z.look(9), 400);
    }

    private static EarlyToken targetOfSixty() {
        EarlyToken x = new EarlyToken();
        x.claim(1);
        for (int i = 0; i < 3; i++) {
            x.bid(i, 400);
        }
        x.tick(6);
        return x;
    }

    /** All SHARES, LATENCY and MOST are 76, FLOOR is 60 by a TARGET. */
    private static EarlyToken beyondFloor() {
        EarlyToken x = new EarlyToken();
        x.claim(1);
        for (int i = 0; i < 3; i++) {
            x.bid(i, 400);
        }
        x.share(2, 60);
        x.tick(6);
        return x;
    }

    private static void nothingByWhichItWouldNotBeSo() {
        EarlyToken x = beyondFloor();
        CHECK.due("FLOOR", x.look(9), 60);
        CHECK.refused("less, and yet too much", EdgesOfTellingTest::beyondFloor, y -> y.share(2, 45));
        CHECK.refused("less, and yet too much", EdgesOfTellingTest::beyondFloor, y -> y.delay(0, 1));
        CHECK.refused("less, and yet too much", EdgesOfTellingTest::beyondFloor, y -> y.set(0, 1));
        CHECK.yes("less, and no more than FLOOR", x.share(2, 44));
    }

    /** "PERIOD 20 .. 999" */
    private static void periodsTwentyToNineHundredNinetyNine() {
        EarlyToken x = new EarlyToken();
        in("period", v -> x.stream(1, v, 5), 20, 21, 998, 999);
        CHECK.due("PERIOD", x.station(1, 13), 999);
        out("period", EdgesOfTellingTest::busy, (y, v) -> y.stream(1, v, 5), MIN, -20, -1, 1, 19, 1000, MAX);
    }

    /** "LENGTH 1 .. 99" */
    private static void lengthsOneToNinetyNine() {
        EarlyToken x = new EarlyToken();
        in("length", v -> x.stream(1, 20, v), 1, 2, 98, 99);
        CHECK.due("LENGTH", x.station(1, 14), 99);
        out("length", EdgesOfTellingTest::busy, (y, v) -> y.stream(1, 50, v), MIN, -1, 0, 100, MAX);
    }

    /** "period 0: none; the length isn't asked then" */
    private static void withoutAStreamTheLengthIsNotAsked() {
        for (int length : new int[] {MIN, -1, 0, 1, 99, 100, MAX}) {
            EarlyToken x = busy();
            CHECK.yes("none", x.stream(1, 0, length));
            CHECK.due("PERIOD", x.station(1, 13), 0);
            CHECK.due("LENGTH", x.station(1, 14), 0);
            CHECK.due("REST", x.station(1, 11), 0);
            CHECK.due("not sure, none", x.sure(1), -1);
            CHECK.yes("none again", x.stream(1, 0, length));
        }
    }

    private static void streamOfAStationThatIs() {
        out("stream of", EdgesOfTellingTest::busy, (x, station) -> x.stream(station, 50, 5), MIN, -1, 4, 8, MAX);
        out("no stream of", EdgesOfTellingTest::busy, (x, station) -> x.stream(station, 0, 5), MIN, -1, 4, 8, MAX);
        EarlyToken x = wide(8);
        in("stream of", station -> x.stream(station, 50, 5), 0, 7);
    }

    /** "REST is 0" */
    private static void restIsZeroByATold() {
        EarlyToken x = new EarlyToken();
        x.stream(0, 20, 5);
        x.tick(20);
        CHECK.due("REST", x.station(0, 11), 5);
        CHECK.no("refused", x.stream(0, 20, 100));
        CHECK.due("REST stays", x.station(0, 11), 5);
        CHECK.yes("the same told again", x.stream(0, 20, 5));
        CHECK.due("REST is 0", x.station(0, 11), 0);
        x.tick(20);
        CHECK.due("so that nothing is MISSED", x.station(0, 15), 0);
        CHECK.due("REST", x.station(0, 11), 5);
    }

    /** "a LINE of frames (8 at most)"; "NONE .. there are 8" */
    private static void eightFramesAtMost() {
        EarlyToken x = new EarlyToken();
        CHECK.due("empty", x.station(0, 12), 0);
        for (int i = 1; i <= 8; i++) {
            CHECK.due("how many are in it", x.frame(0, 1, 3, i), i);
        }
        CHECK.none("a ninth", EdgesOfTellingTest::fullLine, y -> y.frame(0, 1, 3, 1));
        CHECK.due("another line", x.frame(1, 0, 3, 1), 1);
        x.claim(0);
        x.tick(19);
        CHECK.due("the first is at its end", x.station(0, 12), 7);
        CHECK.due("one more", x.frame(0, 1, 3, 1), 8);
        CHECK.due("a ninth", x.frame(0, 1, 3, 1), -1);
    }

    private static EarlyToken fullLine() {
        EarlyToken x = new EarlyToken();
        for (int i = 1; i <= 8; i++) {
            x.frame(0, 1, 3, i);
        }
        return x;
    }

    private static void oneThatIsSentIsInTheLine() {
        EarlyToken x = fullLine();
        x.claim(0);
        x.tick(18);
        CHECK.due("it is sent", x.station(0, 10), 1);
        CHECK.due("it is in the line", x.station(0, 12), 8);
        CHECK.due("no ninth", x.frame(0, 1, 3, 1), -1);
        x.tick(1);
        CHECK.due("now one more", x.frame(0, 1, 3, 1), 8);
    }

    /** "each TO another STATION" */
    private static void toAnotherStation() {
        for (int to : new int[] {MIN, -1, 1, 4, 8, MAX}) {
            CHECK.none("to " + to, EdgesOfTellingTest::busy, x -> x.frame(1, to, 1, 1));
        }
        for (int of : new int[] {MIN, -1, 4, 8, MAX}) {
            CHECK.none("of " + of, EdgesOfTellingTest::busy, x -> x.frame(of, 1, 1, 1));
        }
        for (int i = 0; i < 8; i++) {
            EarlyToken x = wide(8);
            for (int to = 0, many = 0; to < 8; to++) {
                CHECK.due("to any other one", x.frame(i, to, 1, 1), to == i ? -1 : ++many);
            }
        }
    }

    /** "of a PRIORITY 1 .. 3" */
    private static void priorityOneToThree() {
        for (int priority : new int[] {MIN, -1, 0, 4, MAX}) {
            CHECK.none("priority " + priority, EdgesOfTellingTest::busy, x -> x.frame(1, 0, priority, 1));
        }
        EarlyToken x = new EarlyToken();
        CHECK.due("priority 1", x.frame(1, 0, 1, 1), 1);
        CHECK.due("priority 3", x.frame(1, 0, 3, 1), 2);
    }

    /** "a length 1 .. MOST" */
    private static void lengthOneToMost() {
        for (int length : new int[] {MIN, -1, 0, 11, MAX}) {
            CHECK.none("length " + length, EdgesOfTellingTest::busy, x -> x.frame(1, 0, 1, length));
        }
        EarlyToken x = wide(3);
        CHECK.due("length 1", x.frame(1, 0, 1, 1), 1);
        CHECK.due("length 10", x.frame(1, 0, 1, 10), 2);
        x.set(0, 50);
        CHECK.due("length 50", x.frame(1, 0, 1, 50), 3);
        CHECK.due("length 51", x.frame(1, 0, 1, 51), -1);
        x.set(0, 1);
        CHECK.due("length 1", x.frame(1, 0, 1, 1), 4);
        CHECK.due("length 2", x.frame(1, 0, 1, 2), -1);
    }

    /** "(as it was told then)" */
    private static void mostAsItWasTold() {
        EarlyToken x = wide(3);
        x.set(0, 50);
        x.frame(0, 1, 1, 50);
        x.set(0, 1);
        CHECK.due("it stays as long", x.queued(0, 0, 2), 50);
        x.claim(0);
        x.tick(18);
        CHECK.due("and is sent so", x.station(0, 10), 50);
        x.tick(50);
        CHECK.due("whole", x.station(0, 17), 1);
    }

    /** "A STATION can be OUT (not at first; two at least are not)" */
    private static void twoAtLeastAreNotOut() {
        for (int n = 2; n <= 8; n++) {
            int stations = n;
            EarlyToken x = allOutButTwo(n);
            CHECK.due("all but two", x.look(20), (1 << n) - 4);
            CHECK.refused("two at least", () -> allOutButTwo(stations), y -> y.out(0, true));
            CHECK.refused("two at least", () -> allOutButTwo(stations), y -> y.out(1, true));
            if (n > 2) {
                CHECK.yes("one in, another one out", x.out(2, false) && x.out(0, true));
                CHECK.due("all but two", x.look(20), (1 << n) - 1 - 2 - 4);
            }
        }
    }

    private static EarlyToken allOutButTwo(int n) {
        EarlyToken x = new EarlyToken();
        x.begin(n);
        x.claim(0);
        x.tick(30);
        for (int i = 2; i < n; i++) {
            CHECK.yes("out", x.out(i, true));
        }
        return x;
    }

    /** "false if it is so, can't be, or there is none such" */
    private static void outIfItIsNotSo() {
        CHECK.refused("out already", EdgesOfTellingTest::busy, x -> x.out(3, true));
        CHECK.refused("in already", EdgesOfTellingTest::busy, x -> x.out(0, false));
        for (boolean is : new boolean[] {true, false}) {
            out("out of", EdgesOfTellingTest::busy, (x, station) -> x.out(station, is), MIN, -1, 4, 8, MAX);
        }
    }

    /** "nor can one be IN again" by which SHARES, LATENCY and MOST would be more than FLOOR */
    private static void inAgainWithinFloor() {
        CHECK.yes("45 and 10 and 6 are 61", outWith(60, 1).share(0, 44));
        CHECK.refused("by its SHARE", () -> {
            EarlyToken x = outWith(60, 1);
            x.share(0, 44);
            return x;
        }, x -> x.out(2, false));
        EarlyToken x = outWith(60, 1);
        x.share(0, 43);
        CHECK.yes("44 and 10 and 6 are 60", x.out(2, false));
        CHECK.refused("by its BID", () -> outWith(15, 0), y -> y.out(2, false));
        CHECK.yes("its BID is 16", outWith(16, 0).out(2, false));
        CHECK.refused("by both", () -> outWith(26, 11), y -> y.out(2, false));
        CHECK.yes("by both", outWith(26, 10).out(2, false));
    }

    private static EarlyToken outWith(int bid, int share) {
        EarlyToken x = new EarlyToken();
        x.out(2, true);
        x.bid(2, bid);
        x.share(2, share);
        return x;
    }

    /** "IN again it is QUIET" */
    private static void inAgainItIsQuiet() {
        EarlyToken x = new EarlyToken();
        x.bid(1, 50);
        x.claim(1);
        x.tick(7);
        CHECK.due("1 is up", x.station(1, 0), 1);
        x.out(1, true);
        CHECK.due("quiet", x.station(1, 0), 0);
        CHECK.due("no TARGET", x.station(1, 3), -1);
        x.out(1, false);
        CHECK.due("quiet", x.station(1, 0), 0);
        CHECK.due("no TARGET", x.station(1, 3), -1);
        CHECK.due("follows none", x.station(1, 24), -1);
        CHECK.due("UP", x.look(14), 0);
    }

    /** "STATE (an int, 0 at first)" */
    private static void stateIsAnyInt() {
        EarlyToken x = new EarlyToken();
        int before = 0;
        for (int v : new int[] {1, -1, MAX, MIN, 0}) {
            CHECK.due("what it was", x.state(v), before);
            CHECK.due("as it is", x.look(19), v);
            before = v;
        }
    }

    /** "it becomes 1664525 times itself + 1013904223 (ints, which wrap)" */
    private static void stateWraps() {
        for (int v : new int[] {0, 1, -1, MAX, MIN, 65536, 1291, -1291}) {
            EarlyToken x = new EarlyToken();
            x.state(v);
            x.storm(1);
            long want = v;
            for (int i = 0; i < 4; i++) {
                want = want * 1664525L + 1013904223L << 32 >> 32;
            }
            CHECK.due("STATE after four draws from " + v, x.look(19), want);
        }
        EarlyToken x = new EarlyToken();
        x.storm(1);
        CHECK.due("from 0", x.look(19), 1013904223 * (1 + 1664525 * (1 + 1664525 * (1 + 1664525))));
    }

    /** A state from which the next draw has such bits: 4276115653 undoes 1664525. */
    private static int stateBefore(int bits) {
        return (int) ((bits - 1013904223L) * 4276115653L);
    }

    /** "then it is its highest 24 bits (without sign) modulo m" */
    private static void drawIsTheHighestBits() {
        for (int bits : new int[] {0xff, 0x100, 0x1ff, 0x2ff, 0x3ff, 0x7fffffff, MIN, 0x800001ff, -1, -256, -257}) {
            CHECK.due("undone", stateBefore(bits) * 1664525 + 1013904223, bits);
            EarlyToken x = new EarlyToken();
            x.state(stateBefore(bits));
            x.storm(1);
            long whose = ((bits & 0xffffffffL) >> 8) % 3;
            for (int i = 0; i < 3; i++) {
                CHECK.due("a frame of " + i + " by " + bits, x.station(i, 12), i == whose ? 1 : 0);
            }
        }
    }

    /** "A STORM of k (1 .. 30) .. NONE if k can't be." */
    private static void stormOneToThirty() {
        for (int k : new int[] {MIN, -1, 0, 31, MAX}) {
            CHECK.none("storm " + k, EdgesOfTellingTest::busy, x -> x.storm(k));
        }
        EarlyToken x = wide(8);
        CHECK.due("storm(1)", x.storm(1), 1);
        x = wide(8);
        x.state(3);
        int came = x.storm(30);
        int there = 0;
        for (int i = 0; i < 8; i++) {
            there += x.station(i, 12);
        }
        CHECK.due("as many as came", there, came);
        CHECK.yes("of 30", came <= 30 && came > 24);
        int state = 3;
        for (int i = 0; i < 120; i++) {
            state = state * 1664525 + 1013904223;
        }
        CHECK.due("four draws for each", x.look(19), state);
    }

    /** "a DRAW of all STATIONS (OUT ones, too) is whose, of all but one TO whom (that one and those behind ..)" */
    private static void stormOfAllStations() {
        for (int n = 2; n <= 8; n++) {
            boolean[][] seen = new boolean[n][n];
            for (int seed = 0; seed < 60; seed++) {
                EarlyToken x = wide(n);
                if (n > 2) {
                    x.out(n - 1, true);
                }
                x.state(seed * 48271);
                x.storm(n);
                for (int i = 0; i < n; i++) {
                    for (int k = 0; k < x.station(i, 12); k++) {
                        seen[i][x.queued(i, k, 0)] = true;
                    }
                }
            }
            for (int i = 0; i < n; i++) {
                for (int to = 0; to < n; to++) {
                    CHECK.due("of " + i + " to " + to, seen[i][to] ? 1 : 0, i == to ? 0 : 1);
                }
            }
        }
    }

    /** "a frame comes into that LINE, if it is not full" */
    private static void stormOfFullLines() {
        EarlyToken x = new EarlyToken();
        for (int i = 0; i < 8; i++) {
            x.frame(0, 1, 1, 1);
            x.frame(1, 0, 1, 1);
        }
        x.state(1);
        int came = 0;
        for (int i = 0; i < 4; i++) {
            came += x.storm(30);
            CHECK.due("into the line that is not full", x.station(2, 12), came);
        }
        CHECK.due("up to 8", came, 8);
        CHECK.due("into no other", x.station(0, 12) + x.station(1, 12), 16);
        CHECK.due("all are full", x.storm(30), 0);
    }

    /** "of 3 the PRIORITY less 1, of MOST the length less 1" */
    private static void stormOfLengthsUpToMost() {
        for (int most : new int[] {1, 2, 50}) {
            boolean[] lengths = new boolean[most + 2];
            boolean[] priorities = new boolean[5];
            for (int seed = 0; seed < 120; seed++) {
                EarlyToken x = wide(8);
                x.set(0, most);
                x.state(seed * 69621);
                x.storm(8);
                for (int i = 0; i < 8; i++) {
                    for (int k = 0; k < x.station(i, 12); k++) {
                        priorities[x.queued(i, k, 1)] = true;
                        lengths[Math.min(most + 1, x.queued(i, k, 2))] = true;
                    }
                }
            }
            for (int v = 0; v < lengths.length; v++) {
                CHECK.due("length " + v + " of " + most, lengths[v] ? 1 : 0, v >= 1 && v <= most ? 1 : 0);
            }
            for (int v = 0; v < 5; v++) {
                CHECK.due("priority " + v, priorities[v] ? 1 : 0, v >= 1 && v <= 3 ? 1 : 0);
            }
        }
    }
}
