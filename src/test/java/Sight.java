import java.util.ArrayList;
import java.util.List;
import java.util.function.Supplier;

/**
 * What can be seen of an object, and of what it does next. An object may be asked 512 times at most, so all of it is
 * seen in parts, each of an object of its own, made by the same calls.
 */
final class Sight {
    private static final int PARTS = 8;
    private static final int MESSAGES_AT_ONCE = 40;
    private static final int LATER = 40;

    private Sight() {
    }

    /** Where two objects, made anew for each part, differ, now or some ticks later; null if they don't. */
    static String difference(Supplier<EarlyToken> left, Supplier<EarlyToken> right) {
        for (int ticks = 0; ticks <= LATER; ticks += LATER) {
            for (int part = 0; part < PARTS; part++) {
                List<String> one = part(left.get(), ticks, part);
                List<String> other = part(right.get(), ticks, part);
                for (int i = 0; i < Math.max(one.size(), other.size()); i++) {
                    String a = i < one.size() ? one.get(i) : "nothing";
                    String b = i < other.size() ? other.get(i) : "nothing";
                    if (!a.equals(b)) {
                        return a + " against " + b + ", " + ticks + " ticks later";
                    }
                }
            }
        }
        return null;
    }

    private static List<String> part(EarlyToken x, int ticks, int part) {
        if (ticks > 0) {
            x.tick(ticks);
        }
        List<String> seen = new ArrayList<>();
        int n = x.look(6);
        switch (part) {
            case 0:
                ring(x, n, seen);
                break;
            case 1:
                rows("station", n, 27, x::station, seen);
                break;
            case 2:
                for (int i = 0; i < n; i++) {
                    int station = i;
                    rows("queued of " + i, x.station(i, 12), 4, (k, what) -> x.queued(station, k, what), seen);
                }
                break;
            case 3:
                rows("log", Math.min(60, x.look(18)), 4, x::log, seen);
                break;
            case 4:
                rows("book", Math.min(40, x.look(21)), 5, x::book, seen);
                break;
            default:
                int from = (part - 5) * MESSAGES_AT_ONCE;
                int many = Math.max(0, Math.min(MESSAGES_AT_ONCE, x.look(12) - from));
                rows("message from " + from, many, 5, (i, what) -> x.message(from + i, what), seen);
                break;
        }
        return seen;
    }

    private interface Asked {
        int of(int i, int what);
    }

    private static void rows(String name, int rows, int columns, Asked asked, List<String> seen) {
        for (int i = 0; i < rows; i++) {
            for (int what = 0; what < columns; what++) {
                seen.add(name + "(" + i + ", " + what + ") " + asked.of(i, what));
            }
        }
    }

    private static void ring(EarlyToken x, int n, List<String> seen) {
        rows("look", 1, 24, (i, what) -> x.look(what), seen);
        rows("count", 1, 8, (i, what) -> x.count(what), seen);
        rows("link", n, 3, x::link, seen);
        rows("dealt", 3, n, x::dealt, seen);
        rows("fits", 1, 3, (i, what) -> x.fits(what), seen);
        rows("sure", 1, n, (i, what) -> x.sure(what), seen);
        rows("would, 17 ticks", 1, 6, (i, what) -> x.would(17, what), seen);
        rows("found", 1, 2, (i, what) -> x.found(what), seen);
        for (int i = 0; i < n; i++) {
            seen.add("mean(" + i + ") " + x.mean(i));
        }
        seen.add("load " + x.load(1));
        seen.add("suspects " + x.suspects());
        seen.add("least " + x.least());
        seen.add("asked " + x.asked(0, 1, 1, 1));
    }
}
