/** Shares that are sure, dealt out, fitting: promises 22 to 26. */
public final class SchemesTest {
    private static final Check CHECK = new Check("SchemesTest");

    public static void main(String[] args) {
        sure();
        sureByTheFloor();
        dealtAlike();
        dealtByLoad();
        dealtByNeed();
        fits();
        fitsOnlyIfSure();
        least();
        leastOfMost();
        load();
        CHECK.end();
    }

    /** Promise 22. */
    private static void sure() {
        EarlyToken x = new EarlyToken();
        CHECK.due("no stream", x.sure(0), -1);
        CHECK.due("none such", x.sure(3), -1);
        CHECK.due("none such", x.sure(-1), -1);
        x.stream(0, 179, 20);
        x.share(0, 19);
        CHECK.due("one round: 19", x.sure(0), 0);
        x.share(0, 20);
        CHECK.due("one round: 20", x.sure(0), 1);
        x.stream(0, 180, 21);
        CHECK.due("two rounds: 40", x.sure(0), 1);
        x.stream(0, 180, 41);
        CHECK.due("two rounds: 40", x.sure(0), 0);
        x.stream(0, 119, 1);
        CHECK.due("no round", x.sure(0), 0);
        x.stream(0, 59, 1);
        CHECK.due("less than none", x.sure(0), 0);
        x.stream(0, 0, 1);
        CHECK.due("no stream", x.sure(0), -1);
    }

    private static void sureByTheFloor() {
        EarlyToken x = new EarlyToken();
        x.stream(0, 100, 10);
        x.share(0, 4);
        CHECK.due("100 by 60", x.sure(0), 0);
        x.bid(1, 30);
        CHECK.due("100 by 30: twice 4", x.sure(0), 0);
        x.share(0, 5);
        CHECK.due("100 by 30: twice 5", x.sure(0), 1);
        x.out(1, true);
        CHECK.due("100 by 60", x.sure(0), 0);
    }

    private static void dealtAlike() {
        EarlyToken x = new EarlyToken();
        CHECK.due("44 by 3", x.dealt(0, 0), 14);
        CHECK.due("44 by 3", x.dealt(0, 2), 14);
        CHECK.due("no such scheme", x.dealt(-1, 0), -1);
        CHECK.due("no such scheme", x.dealt(3, 0), -1);
        CHECK.due("no such station", x.dealt(0, 3), -1);
        CHECK.due("no such station", x.dealt(0, -1), -1);
        x.out(1, true);
        CHECK.due("44 by 2", x.dealt(0, 0), 22);
        CHECK.due("out", x.dealt(0, 1), 0);
        x.set(0, 50);
        CHECK.due("4 by 2", x.dealt(0, 0), 2);
    }

    private static void dealtByLoad() {
        EarlyToken x = new EarlyToken();
        for (int i = 0; i < 3; i++) {
            CHECK.due("no load", x.dealt(1, i), 0);
        }
        x.stream(0, 30, 1);
        x.stream(2, 20, 1);
        CHECK.due("44 times 33333 by 83333", x.dealt(1, 0), 17);
        CHECK.due("none", x.dealt(1, 1), 0);
        CHECK.due("44 times 50000 by 83333", x.dealt(1, 2), 26);
        x.out(0, true);
        CHECK.due("out", x.dealt(1, 0), 0);
        CHECK.due("all", x.dealt(1, 2), 44);
        x.begin(2);
        x.bid(0, 500);
        x.bid(1, 500);
        x.stream(0, 20, 99);
        x.stream(1, 20, 99);
        CHECK.due("486 times 4950000 by twice that", x.dealt(1, 0), 243);
    }

    private static void dealtByNeed() {
        EarlyToken x = new EarlyToken();
        CHECK.due("no stream", x.dealt(2, 0), 0);
        x.stream(0, 180, 20);
        CHECK.due("20 by 2", x.dealt(2, 0), 10);
        x.stream(0, 180, 21);
        CHECK.due("21 by 2, upwards", x.dealt(2, 0), 11);
        x.stream(0, 120, 99);
        CHECK.due("99 by 1", x.dealt(2, 0), 99);
        x.stream(0, 119, 1);
        CHECK.due("none", x.dealt(2, 0), -1);
        x.out(0, true);
        CHECK.due("out", x.dealt(2, 0), 0);
    }

    /** Promise 24. */
    private static void fits() {
        EarlyToken x = new EarlyToken();
        CHECK.due("no such", x.fits(-1), -1);
        CHECK.due("no such", x.fits(3), -1);
        for (int scheme = 0; scheme < 3; scheme++) {
            CHECK.due("nothing to deal out", x.fits(scheme), 1);
        }
        x.stream(0, 180, 88);
        CHECK.due("14 is too little", x.fits(0), 0);
        CHECK.due("44 twice", x.fits(1), 1);
        CHECK.due("44 twice", x.fits(2), 1);
        x.stream(0, 180, 89);
        CHECK.due("45 is needed", x.fits(1), 0);
        CHECK.due("45 is needed", x.fits(2), 0);
        x.stream(0, 180, 28);
        CHECK.due("14 twice", x.fits(0), 1);
        x.stream(0, 119, 1);
        CHECK.due("never sure", x.fits(0), 0);
        CHECK.due("never sure", x.fits(1), 0);
        CHECK.due("none", x.fits(2), 0);
        x.out(0, true);
        for (int scheme = 0; scheme < 3; scheme++) {
            CHECK.due("who is out counts for nothing", x.fits(scheme), 1);
        }
    }

    private static void fitsOnlyIfSure() {
        EarlyToken x = new EarlyToken();
        x.stream(0, 180, 40);
        x.stream(1, 180, 40);
        x.stream(2, 180, 8);
        CHECK.due("20, 20, 4 are 44", x.fits(2), 1);
        CHECK.due("alike", x.fits(0), 0);
        CHECK.due("by load", x.fits(1), 0);
        x.stream(2, 180, 9);
        CHECK.due("20, 20, 5 are 45", x.fits(2), 0);
        x = new EarlyToken();
        x.bid(1, 400);
        x.bid(2, 400);
        x.claim(0);
        x.bid(0, 400);
        x.set(0, 50);
        x.delay(0, 20);
        x.tick(6);
        CHECK.due("FLOOR is below LATENCY and MOST", x.look(9) - x.look(8) - x.look(0), 60 - 24 - 50);
        CHECK.due("SPARE", x.look(11), 0);
        for (int scheme = 0; scheme < 3; scheme++) {
            CHECK.due("no scheme fits", x.fits(scheme), 0);
        }
        CHECK.due("nothing", x.dealt(0, 0), 0);
    }

    /** Promise 25. */
    private static void least() {
        EarlyToken x = new EarlyToken();
        CHECK.due("LATENCY and MOST", x.least(), 16);
        x.stream(0, 200, 20);
        CHECK.due("200 by 18 is 11", x.least(), 18);
        x.stream(1, 40, 10);
        CHECK.due("10 of it and 4 of the other one by 20 would be 30", x.least(), -1);
        x.stream(1, 60, 10);
        CHECK.due("200 by 30: 4, 60 by 30: 10", x.least(), 30);
        x.out(1, true);
        CHECK.due("without it", x.least(), 18);
        x.begin(2);
        x.delay(0, 1);
        x.delay(1, 1);
        x.set(0, 1);
        CHECK.due("no bid is less", x.least(), 10);
    }

    private static void leastOfMost() {
        EarlyToken x = new EarlyToken();
        x.begin(8);
        for (int i = 0; i < 8; i++) {
            x.bid(i, 500);
        }
        for (int i = 0; i < 8; i++) {
            x.delay(i, 20);
        }
        x.set(0, 50);
        CHECK.due("160 and 50", x.least(), 210);
        for (int i = 0; i < 3; i++) {
            x.stream(i, 999, 80);
        }
        CHECK.due("999 by 333 is 3: 40 each", x.least(), 330);
        for (int i = 0; i < 5; i++) {
            x.stream(i, 999, 57);
        }
        CHECK.due("999 by 333 is 3, but 5 times 29 are too much; by 495 it is 2: 57 each", x.least(), 495);
    }

    /** Promise 26. */
    private static void load() {
        EarlyToken x = new EarlyToken();
        CHECK.due("no load", x.load(Long.MAX_VALUE), 0);
        CHECK.due("below 0", x.load(-1), -1);
        CHECK.due("below 0", x.load(Long.MIN_VALUE), -1);
        x.stream(0, 30, 1);
        CHECK.due("downwards", x.load(1), 33333);
        x.stream(1, 30, 1);
        CHECK.due("each downwards", x.load(1), 66666);
        CHECK.due("0 times", x.load(0), 0);
        CHECK.due("3 times", x.load(3), 199998);
        long most = Long.MAX_VALUE / 66666;
        CHECK.due("just not beyond", x.load(most), most * 66666);
        CHECK.due("just beyond", x.load(most + 1), -1);
        CHECK.due("far beyond", x.load(Long.MAX_VALUE), -1);
        x.out(1, true);
        CHECK.due("without one that is out", x.load(2), 66666);
        x.stream(0, 20, 99);
        CHECK.due("the greatest", x.load(1), 4950000);
    }
}
