/** What can be seen of an object. */
final class Sight {
    private Sight() {
    }

    /** Everything that can be asked of an object, in one number. */
    static long sum(EarlyToken x) {
        long sum = 0;
        for (int what = 0; what < 24; what++) {
            sum = 31 * sum + x.look(what);
        }
        for (int what = 0; what < 8; what++) {
            sum = 31 * sum + x.count(what);
        }
        for (int i = 0; i < x.look(6); i++) {
            for (int what = 0; what < 27; what++) {
                sum = 31 * sum + x.station(i, what);
            }
            for (int k = 0; k < 32; k++) {
                sum = 31 * sum + x.queued(i, k / 4, k % 4);
            }
            sum = 31 * sum + x.link(i, 0) + 5 * x.link(i, 1) + 7 * x.link(i, 2);
        }
        for (int i = 0; i < 300; i++) {
            sum = 31 * sum + x.log(i / 5, i % 5) + 3 * x.book(i / 5, i % 5) + 7 * x.message(i / 5, i % 5);
        }
        return sum;
    }
}
