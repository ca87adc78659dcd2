import java.util.function.Predicate;
import java.util.function.Supplier;
import java.util.function.ToLongFunction;

/** Counts the answers that are not the ones that are due, and tells each. */
final class Check {
    private final String title;
    private int asked;
    private int wrong;

    Check(String title) {
        this.title = title;
    }

    void due(String what, long got, long want) {
        asked++;
        if (got != want) {
            tell(what + " answered " + got + ", due is " + want);
        }
    }

    private void tell(String fault) {
        wrong++;
        if (wrong <= 40) {
            System.out.println(title + ": " + fault);
        }
    }

    void yes(String what, boolean got) {
        due(what, got ? 1 : 0, 1);
    }

    void no(String what, boolean got) {
        due(what, got ? 1 : 0, 0);
    }

    /** What a station is asked, with the tick in the message. */
    void station(EarlyToken x, int station, int what, int want) {
        due("station(" + station + ", " + what + ") at " + x.look(7), x.station(station, what), want);
    }

    /** Two objects, each made anew as often as needed, are the same, and go on the same. */
    void same(String what, Supplier<EarlyToken> left, Supplier<EarlyToken> right) {
        asked++;
        String difference = Sight.difference(left, right);
        if (difference != null) {
            tell(what + ": " + difference);
        }
    }

    void different(String what, Supplier<EarlyToken> left, Supplier<EarlyToken> right) {
        asked++;
        if (Sight.difference(left, right) == null) {
            tell(what + ": no difference");
        }
    }

    /** A call that is refused by false: nothing has changed by it. */
    void refused(String what, Supplier<EarlyToken> made, Predicate<EarlyToken> call) {
        no(what, call.test(made.get()));
        unchanged(what, made, x -> call.test(x) ? 1 : 0);
    }

    /** A call that is refused by NONE: nothing has changed by it. */
    void none(String what, Supplier<EarlyToken> made, ToLongFunction<EarlyToken> call) {
        due(what, call.applyAsLong(made.get()), EarlyToken.NONE);
        unchanged(what, made, call);
    }

    void unchanged(String what, Supplier<EarlyToken> made, ToLongFunction<EarlyToken> call) {
        same("nothing has changed by " + what, made, () -> {
            EarlyToken x = made.get();
            call.applyAsLong(x);
            return x;
        });
    }

    /** The i-th line of the log, whole. */
    void logged(EarlyToken x, int i, int tick, int what, int station, int number) {
        int[] want = {tick, what, station, number, -1};
        for (int k = 0; k < want.length; k++) {
            due("log(" + i + ", " + k + ") at " + x.look(7), x.log(i, k), want[k]);
        }
    }

    /** The i-th line of the book, whole. */
    void booked(EarlyToken x, int i, int station, int tick, int since, int rest, int frames) {
        int[] want = {station, tick, since, rest, frames, -1};
        for (int what = 0; what < want.length; what++) {
            due("book(" + i + ", " + what + ") at " + x.look(7), x.book(i, what), want[what]);
        }
    }

    /** The last call of a test's main method. */
    void end() {
        System.out.println(title + ": " + asked + " answers, " + wrong + " of them wrong");
        if (wrong > 0 || asked == 0) {
            System.exit(1);
        }
    }
}
