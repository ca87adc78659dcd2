/** The token: held, late, lost, doubled, stray; streams and frames: promises 14, 15, 17, 27, 31, 33. */
public final class TokenTest {
    private static final Check CHECK = new Check("TokenTest");

    public static void main(String[] args) {
        rounds();
        late();
        lateTokenLeavesNothing();
        lose();
        loseWhatIsSent();
        doubled();
        latencyAgoIsNotDoubled();
        whoWonHasLetGo();
        whoBecomesUpHasLetGo();
        doublingIsNotLettingGo();
        stray();
        restByShares();
        restThatIsMissed();
        restToldAnew();
        framesByPriority();
        framesByLimit();
        framesFromTheThirdRound();
        framesEndEarliness();
        framesThatAreLost();
        claimingDropsWhatIsSent();
        goingOutDropsTheToken();
        tripsStartAnew();
        CHECK.end();
    }

    /** Two stations: 0 won at tick 4, and holds the token at 8, 12, 16 .. */
    private static EarlyToken two() {
        EarlyToken x = new EarlyToken();
        x.begin(2);
        x.claim(0);
        return x;
    }

    private static void rounds() {
        EarlyToken x = two();
        x.tick(4);
        CHECK.station(x, 0, 6, 1);
        CHECK.station(x, 0, 4, 60);
        CHECK.due("no mean", x.mean(0), -1);
        x.tick(3);
        CHECK.station(x, 0, 4, 57);
        CHECK.due("no line of the book", x.book(0, 0), -1);
        x.tick(1);
        CHECK.station(x, 0, 6, 2);
        CHECK.station(x, 0, 4, 60);
        CHECK.station(x, 0, 21, 0);
        CHECK.station(x, 0, 7, 0);
        CHECK.booked(x, 0, 0, 8, 0, 0, 0);
        x.tick(4);
        CHECK.station(x, 0, 6, 3);
        CHECK.station(x, 0, 21, 1);
        CHECK.station(x, 0, 22, 4);
        CHECK.station(x, 0, 23, 4);
        CHECK.due("mean(0)", x.mean(0), 4000);
        CHECK.due("mean(2)", x.mean(2), -1);
        CHECK.due("mean(-1)", x.mean(-1), -1);
        CHECK.booked(x, 0, 0, 12, 0, 0, 0);
        CHECK.booked(x, 1, 1, 10, 0, 0, 0);
        x.frame(0, 1, 1, 3);
        x.tick(12);
        CHECK.station(x, 0, 21, 3);
        CHECK.station(x, 0, 22, 15);
        CHECK.station(x, 0, 23, 7);
        CHECK.due("the longest of all", x.look(22), 7);
        CHECK.station(x, 1, 23, 7);
        x.frame(0, 1, 1, 1);
        x.tick(12);
        CHECK.station(x, 0, 21, 6);
        CHECK.station(x, 0, 22, 28);
        CHECK.due("downwards", x.mean(0), 4666);
    }

    private static void late() {
        EarlyToken x = two();
        x.tick(10);
        x.lose();
        x.tick(57);
        CHECK.station(x, 0, 4, 1);
        CHECK.station(x, 0, 5, 0);
        x.tick(1);
        CHECK.station(x, 0, 5, 1);
        CHECK.station(x, 0, 4, 60);
        CHECK.station(x, 0, 0, 1);
        x.tick(59);
        CHECK.station(x, 0, 4, 1);
        CHECK.station(x, 0, 0, 1);
        x.tick(1);
        CHECK.station(x, 0, 0, 2);
        CHECK.station(x, 0, 5, 0);
        CHECK.station(x, 0, 6, 0);
        CHECK.station(x, 0, 4, -1);
        CHECK.logged(x, 0, 128, 0, 0, 60);
        x.tick(2);
        CHECK.station(x, 1, 0, 2);
        CHECK.station(x, 1, 24, 0);
        x.tick(2);
        CHECK.station(x, 0, 0, 1);
        CHECK.logged(x, 0, 132, 1, 0, 60);
    }

    private static void lateTokenLeavesNothing() {
        EarlyToken x = two();
        x.tick(12);
        x.lose();
        x.frame(0, 1, 3, 2);
        x.share(0, 5);
        x.tick(63);
        CHECK.station(x, 0, 5, 1);
        int due = x.station(0, 4);
        x.doubled(1);
        x.tick(2);
        CHECK.station(x, 0, 6, 4);
        CHECK.station(x, 0, 5, 0);
        CHECK.station(x, 0, 4, due - 2);
        CHECK.station(x, 0, 12, 1);
        CHECK.booked(x, 0, 0, 77, 0, 0, 0);
        x.tick(4);
        CHECK.station(x, 0, 7, 1);
        CHECK.station(x, 0, 8, due - 6);
        CHECK.station(x, 0, 10, 2);
        CHECK.station(x, 0, 4, 60);
    }

    /** Promise 14. */
    private static void lose() {
        EarlyToken x = two();
        CHECK.due("none yet", x.lose(), 0);
        x.tick(5);
        CHECK.due("one on its way", x.lose(), 1);
        CHECK.due("none is left", x.look(12), 0);
        CHECK.due("none is left", x.lose(), 0);
        x = two();
        x.tick(9);
        x.doubled(0);
        x.doubled(1);
        CHECK.due("tokens", x.look(13), 3);
        CHECK.due("all", x.lose(), 3);
        x = two();
        x.tick(11);
        x.claim(1);
        CHECK.due("a claim and a token", x.look(12), 2);
        CHECK.due("the token", x.lose(), 1);
        CHECK.due("the claim stays", x.message(0, 0), 0);
    }

    private static void loseWhatIsSent() {
        EarlyToken x = two();
        x.tick(11);
        x.frame(0, 1, 1, 5);
        x.tick(3);
        CHECK.station(x, 0, 7, 1);
        CHECK.station(x, 0, 10, 3);
        CHECK.due("TICKS in which something was sent", x.count(7), 2);
        CHECK.due("the held one", x.lose(), 1);
        CHECK.station(x, 0, 7, 0);
        CHECK.station(x, 0, 8, 0);
        CHECK.station(x, 0, 9, 0);
        CHECK.station(x, 0, 10, 0);
        CHECK.station(x, 0, 12, 1);
        x.tick(10);
        CHECK.due("not sent", x.count(7), 2);
        CHECK.station(x, 0, 17, 0);
        x.doubled(1);
        x.tick(2);
        CHECK.station(x, 0, 10, 5);
        x.tick(5);
        CHECK.station(x, 0, 17, 1);
        CHECK.booked(x, 0, 0, 26, 5, 0, 5);
    }

    /** Promise 15. */
    private static void doubled() {
        EarlyToken x = two();
        CHECK.no("quiet", new EarlyToken().doubled(0));
        CHECK.no("claiming", x.doubled(0));
        CHECK.no("none such", x.doubled(2));
        CHECK.no("none such", x.doubled(-1));
        x.tick(13);
        CHECK.yes("doubled(0)", x.doubled(0));
        CHECK.due("TOKENS", x.look(13), 2);
        CHECK.due("kind", x.message(1, 0), 2);
        CHECK.due("of", x.message(1, 3), 0);
        CHECK.due("bid", x.message(1, 4), 60);
        CHECK.due("due", x.message(1, 2), 15);
        x.tick(1);
        CHECK.due("not yet", x.count(2), 0);
        x.tick(1);
        CHECK.due("DOUBLED", x.count(2), 1);
        CHECK.due("TOKENS", x.look(13), 1);
        CHECK.logged(x, 0, 15, 4, 1, 0);
        x = two();
        x.tick(11);
        x.frame(0, 1, 1, 9);
        x.tick(3);
        x.doubled(1);
        x.tick(2);
        CHECK.station(x, 0, 7, 1);
        CHECK.due("it holds one", x.count(2), 1);
        CHECK.logged(x, 0, 16, 4, 0, 0);
        x.cut(1, true);
        CHECK.yes("along a link that is cut", x.doubled(1));
        CHECK.due("LOST", x.count(1), 1);
    }

    private static void latencyAgoIsNotDoubled() {
        EarlyToken x = two();
        x.tick(12);
        x.lose();
        x.doubled(0);
        x.tick(2);
        CHECK.due("1 let it go 4 ago", x.count(2), 0);
        CHECK.due("the token is there", x.look(13), 1);
        x = two();
        x.tick(11);
        x.lose();
        x.doubled(0);
        x.tick(2);
        CHECK.due("1 let it go 3 ago", x.count(2), 1);
        CHECK.due("no token is there", x.look(13), 0);
        x = two();
        x.tick(12);
        x.lose();
        x.doubled(0);
        x.delay(1, 3);
        x.tick(2);
        CHECK.due("LATENCY is 5 by now", x.count(2), 1);
    }

    /** 0 won at tick 4, and the token comes round at 8. */
    private static void whoWonHasLetGo() {
        EarlyToken x = two();
        x.tick(7);
        x.delay(1, 1);
        x.tick(1);
        CHECK.due("LATENCY is 3 by now", x.count(2), 0);
        CHECK.station(x, 0, 6, 2);
        x = two();
        x.tick(8);
        CHECK.due("as long ago as LATENCY", x.count(2), 0);
        CHECK.station(x, 0, 6, 2);
        x = two();
        x.tick(7);
        x.delay(0, 3);
        x.tick(1);
        CHECK.due("LATENCY is 5 by now", x.count(2), 1);
        CHECK.logged(x, 0, 8, 4, 0, 0);
        CHECK.due("no token is there", x.lose(), 0);
        CHECK.due("none was held", x.look(21), 0);
        CHECK.station(x, 0, 6, 1);
        CHECK.station(x, 0, 4, 56);
    }

    /** 1 is up at tick 6, by the first token of two. */
    private static void whoBecomesUpHasLetGo() {
        EarlyToken x = two();
        x.tick(5);
        x.doubled(0);
        x.tick(1);
        CHECK.logged(x, 0, 6, 7, 1, 0);
        CHECK.due("tokens at 6", x.look(13), 2);
        x.tick(1);
        CHECK.due("DOUBLED", x.count(2), 1);
        CHECK.logged(x, 0, 7, 4, 1, 0);
        CHECK.station(x, 1, 6, 1);
        CHECK.due("tokens at 7", x.lose(), 1);
        x = two();
        x.tick(9);
        x.lose();
        x.doubled(0);
        x.tick(2);
        CHECK.due("1 let it go 5 ago", x.count(2), 0);
        CHECK.station(x, 1, 6, 2);
        x = two();
        x.tick(8);
        x.lose();
        x.doubled(0);
        x.tick(2);
        CHECK.due("1 let it go as long ago as LATENCY", x.count(2), 0);
        CHECK.station(x, 1, 6, 2);
        x = two();
        x.tick(7);
        x.lose();
        x.doubled(0);
        x.tick(2);
        CHECK.due("1 let it go 3 ago", x.count(2), 1);
        CHECK.station(x, 1, 6, 1);
    }

    private static void doublingIsNotLettingGo() {
        EarlyToken x = two();
        x.tick(7);
        x.doubled(0);
        CHECK.station(x, 0, 6, 1);
        x.tick(1);
        CHECK.due("0 let it go 4 ago", x.count(2), 0);
        CHECK.station(x, 0, 6, 2);
        x.tick(5);
        x.doubled(0);
        CHECK.station(x, 0, 6, 3);
        int doubled = x.count(2);
        x.tick(3);
        CHECK.station(x, 0, 6, 4);
        CHECK.due("the one that came to 1", x.count(2), doubled + 1);
    }

    private static void stray() {
        EarlyToken x = new EarlyToken();
        x.claim(0);
        x.tick(19);
        x.out(1, true);
        x.out(1, false);
        x.tick(1);
        CHECK.due("the token came to one that is quiet", x.count(3), 1);
        CHECK.logged(x, 0, 20, 5, 1, 0);
        CHECK.due("no token", x.look(13), 0);
        x = new EarlyToken();
        x.claim(0);
        x.tick(19);
        x.claim(1);
        x.tick(1);
        CHECK.due("it came to one that claims with its own", x.count(3), 1);
        CHECK.station(x, 1, 0, 2);
        x = new EarlyToken();
        x.claim(0);
        x.tick(17);
        x.claim(0);
        x.tick(1);
        CHECK.due("of an older claim than the best", x.count(3), 1);
        CHECK.logged(x, 0, 18, 5, 0, 0);
    }

    private static void restByShares() {
        EarlyToken x = two();
        x.share(0, 3);
        x.stream(0, 20, 7);
        x.tick(19);
        CHECK.station(x, 0, 11, 0);
        x.tick(1);
        CHECK.station(x, 0, 11, 7);
        CHECK.station(x, 0, 7, 1);
        CHECK.station(x, 0, 8, 56);
        CHECK.station(x, 0, 9, 0);
        CHECK.station(x, 0, 10, 3);
        x.tick(2);
        CHECK.station(x, 0, 10, 1);
        CHECK.station(x, 0, 11, 7);
        CHECK.station(x, 0, 8, 56);
        x.share(0, 9);
        x.share(0, 3);
        x.tick(1);
        CHECK.station(x, 0, 11, 4);
        CHECK.station(x, 0, 7, 0);
        CHECK.booked(x, 0, 0, 20, 3, 3, 0);
        x.tick(4);
        CHECK.station(x, 0, 10, 3);
        x.tick(7);
        CHECK.station(x, 0, 11, 1);
        CHECK.station(x, 0, 10, 1);
        CHECK.station(x, 0, 9, 2);
        CHECK.station(x, 0, 16, 0);
        x.tick(1);
        CHECK.station(x, 0, 11, 0);
        CHECK.station(x, 0, 16, 1);
        CHECK.booked(x, 0, 0, 34, 1, 1, 0);
        CHECK.due("TICKS in which something was sent", x.count(7), 7);
        x.tick(25);
        CHECK.station(x, 0, 16, 2);
        CHECK.station(x, 0, 15, 0);
        CHECK.station(x, 0, 11, 7);
        x.tick(40);
        CHECK.station(x, 0, 16, 4);
    }

    private static void restThatIsMissed() {
        EarlyToken x = two();
        x.share(0, 30);
        x.stream(0, 20, 30);
        x.tick(39);
        CHECK.station(x, 0, 10, 11);
        CHECK.station(x, 0, 15, 0);
        x.tick(1);
        CHECK.station(x, 0, 15, 1);
        CHECK.station(x, 0, 10, 10);
        CHECK.station(x, 0, 11, 30);
        CHECK.logged(x, 0, 40, 6, 0, 30);
        x.tick(10);
        CHECK.station(x, 0, 11, 30);
        CHECK.station(x, 0, 16, 0);
        CHECK.booked(x, 0, 0, 20, 30, 30, 0);
        x.stream(0, 40, 30);
        x.tick(30);
        CHECK.station(x, 0, 15, 1);
        CHECK.station(x, 0, 11, 30);
        x.tick(35);
        CHECK.station(x, 0, 16, 1);
        x = two();
        x.share(0, 3);
        x.stream(0, 20, 13);
        x.tick(40);
        CHECK.logged(x, 0, 40, 6, 0, 4);
        CHECK.station(x, 0, 11, 13);
    }

    private static void restToldAnew() {
        EarlyToken x = two();
        x.share(0, 10);
        x.stream(0, 20, 10);
        x.tick(25);
        CHECK.station(x, 0, 10, 5);
        x.stream(0, 26, 8);
        CHECK.station(x, 0, 11, 0);
        CHECK.station(x, 0, 10, 5);
        x.tick(1);
        CHECK.station(x, 0, 11, 8);
        CHECK.station(x, 0, 15, 0);
        x.tick(4);
        CHECK.station(x, 0, 11, 8);
        CHECK.station(x, 0, 16, 0);
        CHECK.station(x, 0, 7, 0);
        CHECK.booked(x, 0, 0, 20, 10, 10, 0);
        x.tick(12);
        CHECK.station(x, 0, 11, 0);
        CHECK.station(x, 0, 16, 1);
        x = two();
        x.share(0, 10);
        x.stream(0, 20, 10);
        x.tick(25);
        x.stream(0, 0, 0);
        x.tick(5);
        CHECK.station(x, 0, 16, 0);
        CHECK.station(x, 0, 11, 0);
    }

    private static void framesByPriority() {
        EarlyToken x = two();
        x.tick(9);
        x.set(5, 53);
        x.frame(0, 1, 1, 4);
        x.frame(0, 1, 3, 5);
        x.frame(0, 1, 3, 2);
        x.frame(0, 1, 2, 3);
        x.tick(3);
        CHECK.station(x, 0, 8, 56);
        CHECK.station(x, 0, 10, 5);
        CHECK.station(x, 0, 12, 4);
        x.tick(5);
        CHECK.station(x, 0, 8, 51);
        CHECK.station(x, 0, 12, 3);
        CHECK.station(x, 0, 17, 1);
        CHECK.station(x, 0, 19, 10);
        CHECK.station(x, 0, 10, 3);
        CHECK.due("it was the second", x.queued(0, 1, 2), 2);
        x.tick(3);
        CHECK.station(x, 0, 17, 2);
        CHECK.station(x, 0, 19, 23);
        CHECK.station(x, 0, 20, 13);
        CHECK.station(x, 0, 10, 4);
        x.tick(4);
        CHECK.station(x, 0, 17, 3);
        CHECK.station(x, 0, 19, 40);
        CHECK.station(x, 0, 20, 17);
        CHECK.station(x, 0, 7, 0);
        CHECK.station(x, 0, 12, 1);
        CHECK.due("the third is left", x.queued(0, 0, 1), 3);
        CHECK.due("TICKS in which something was sent", x.count(7), 12);
        CHECK.booked(x, 0, 0, 12, 12, 0, 12);
        CHECK.station(x, 0, 18, 0);
    }

    private static void framesByLimit() {
        for (int priority = 1; priority <= 3; priority++) {
            EarlyToken x = two();
            x.tick(9);
            x.frame(0, 1, priority, 2);
            x.set(2 + priority, 56);
            x.tick(3);
            CHECK.station(x, 0, 12, 1);
            CHECK.station(x, 0, 7, 0);
            x.set(2 + priority, 55);
            x.tick(4);
            CHECK.station(x, 0, 10, 2);
        }
    }

    private static void framesFromTheThirdRound() {
        EarlyToken x = two();
        x.frame(0, 1, 1, 2);
        x.stream(0, 20, 2);
        x.share(0, 2);
        x.tick(8);
        CHECK.station(x, 0, 6, 2);
        CHECK.station(x, 0, 7, 0);
        x.tick(4);
        CHECK.station(x, 0, 6, 3);
        CHECK.station(x, 0, 10, 2);
        x.tick(2);
        CHECK.station(x, 0, 19, 16);
        x = new EarlyToken();
        x.begin(8);
        x.share(0, 2);
        x.stream(0, 20, 2);
        x.claim(0);
        x.tick(32);
        CHECK.station(x, 0, 6, 2);
        CHECK.station(x, 0, 10, 2);
    }

    private static void framesEndEarliness() {
        EarlyToken x = new EarlyToken();
        x.begin(2);
        x.bid(0, 20);
        x.bid(1, 20);
        x.claim(0);
        x.tick(9);
        for (int i = 0; i < 4; i++) {
            x.frame(0, 1, 1, 7);
        }
        x.tick(3);
        CHECK.station(x, 0, 8, 16);
        x.tick(7);
        CHECK.station(x, 0, 8, 9);
        CHECK.station(x, 0, 5, 0);
        x.tick(7);
        CHECK.station(x, 0, 8, 2);
        CHECK.station(x, 0, 10, 7);
        x.tick(2);
        CHECK.station(x, 0, 8, 0);
        CHECK.station(x, 0, 10, 5);
        x.tick(4);
        CHECK.station(x, 0, 8, 0);
        CHECK.station(x, 0, 5, 1);
        x.tick(1);
        CHECK.station(x, 0, 7, 0);
        CHECK.station(x, 0, 12, 1);
        CHECK.booked(x, 0, 0, 12, 21, 0, 21);
    }

    private static void framesThatAreLost() {
        EarlyToken x = new EarlyToken();
        x.begin(4);
        x.bid(1, 50);
        x.delay(1, 3);
        x.claim(1);
        x.tick(26);
        x.frame(1, 0, 3, 5);
        x.frame(1, 2, 2, 2);
        x.tick(4);
        CHECK.station(x, 1, 10, 2);
        x.cut(0, true);
        x.tick(2);
        CHECK.station(x, 1, 17, 1);
        CHECK.station(x, 1, 19, 6 + 3 + 2 + 2);
        x.cut(2, true);
        x.frame(1, 3, 2, 1);
        x.tick(2);
        CHECK.station(x, 1, 17, 2);
        CHECK.station(x, 1, 19, 13 + 8 + 3);
        CHECK.station(x, 1, 20, 13);
        CHECK.station(x, 1, 18, 0);
        x.tick(1);
        CHECK.station(x, 1, 17, 2);
        CHECK.station(x, 1, 18, 1);
        CHECK.station(x, 1, 12, 0);
        x.begin(4);
        x.bid(1, 50);
        x.claim(1);
        x.tick(20);
        x.out(3, true);
        x.frame(1, 3, 3, 2);
        x.frame(1, 0, 2, 2);
        x.frame(1, 2, 1, 2);
        x.tick(6);
        x.cut(3, true);
        x.tick(6);
        CHECK.station(x, 1, 18, 2);
        CHECK.station(x, 1, 17, 1);
        CHECK.station(x, 1, 12, 0);
        CHECK.due("no message is lost by that", x.count(1), 0);
    }

    private static void claimingDropsWhatIsSent() {
        EarlyToken x = two();
        x.share(0, 4);
        x.stream(0, 20, 4);
        x.tick(22);
        CHECK.station(x, 0, 10, 2);
        int lines = x.look(21);
        CHECK.yes("claim(0)", x.claim(0));
        CHECK.station(x, 0, 7, 0);
        CHECK.station(x, 0, 10, 0);
        CHECK.station(x, 0, 11, 4);
        CHECK.due("no token", x.look(13), 0);
        CHECK.due("no line of the book", x.look(21), lines);
        x.tick(10);
        CHECK.station(x, 0, 16, 0);
        CHECK.station(x, 0, 11, 4);
    }

    private static void goingOutDropsTheToken() {
        EarlyToken x = new EarlyToken();
        x.claim(0);
        x.tick(15);
        x.frame(0, 1, 1, 5);
        x.stream(0, 20, 3);
        x.tick(5);
        CHECK.station(x, 0, 7, 1);
        CHECK.station(x, 0, 10, 3);
        x.out(0, true);
        CHECK.station(x, 0, 0, 0);
        CHECK.station(x, 0, 7, 0);
        CHECK.station(x, 0, 12, 1);
        CHECK.station(x, 0, 11, 3);
        CHECK.due("no token", x.look(13), 0);
        x.tick(30);
        CHECK.station(x, 0, 15, 0);
        CHECK.station(x, 0, 11, 3);
        CHECK.due("a frame into the line of one that is out", x.frame(0, 1, 1, 1), 2);
    }

    private static void tripsStartAnew() {
        EarlyToken x = two();
        x.tick(30);
        CHECK.station(x, 0, 21, 5);
        x.bid(1, 50);
        x.claim(1);
        x.tick(10);
        CHECK.station(x, 0, 0, 1);
        CHECK.station(x, 0, 24, 1);
        CHECK.station(x, 0, 21, 0);
        CHECK.station(x, 0, 22, 0);
        CHECK.station(x, 0, 23, 0);
        CHECK.due("no mean", x.mean(0), -1);
        x.tick(4);
        CHECK.station(x, 0, 21, 1);
        CHECK.due("mean", x.mean(0), 4000);
    }
}
