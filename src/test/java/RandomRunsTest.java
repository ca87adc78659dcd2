import java.lang.reflect.InvocationTargetException;
import java.lang.reflect.Method;
import java.util.ArrayList;
import java.util.HashMap;
import java.util.List;
import java.util.Map;
import java.util.Random;

/**
 * Runs of 512 calls, drawn from fixed seeds, on the class and on the model side by side: each answer must be the same.
 * What a call throws would end the test, so it also holds that no call throws.
 */
public final class RandomRunsTest {
    private static final int RUNS = 1200;
    private static final int CALLS = 512;

    private static final Map<String, Method> CLASS_METHODS = methodsOf(EarlyToken.class);
    private static final Map<String, Method> MODEL_METHODS = methodsOf(Model.class);

    private final Random random;
    private final EarlyToken token = new EarlyToken();
    private final Model model = new Model();
    private final List<String> calls = new ArrayList<>();
    private int n = 3;
    private String wrong;

    private RandomRunsTest(long seed) {
        random = new Random(seed);
    }

    private static Map<String, Method> methodsOf(Class<?> face) {
        Map<String, Method> methods = new HashMap<>();
        for (Method method : face.getDeclaredMethods()) {
            method.setAccessible(true);
            methods.put(method.getName(), method);
        }
        return methods;
    }

    public static void main(String[] args) {
        int bad = 0;
        int runs = args.length > 0 ? Integer.parseInt(args[0]) : RUNS;
        for (int seed = 0; seed < runs; seed++) {
            RandomRunsTest run = new RandomRunsTest(seed);
            run.play();
            if (run.wrong != null) {
                bad++;
                if (bad <= 3) {
                    System.out.println("seed " + seed + ": " + run.wrong + " after " + run.calls);
                }
            }
        }
        System.out.println("RandomRunsTest: " + runs + " runs of " + CALLS + " calls, " + bad + " of them wrong");
        if (bad > 0) {
            System.exit(1);
        }
    }

    private void play() {
        open();
        while (calls.size() < CALLS && wrong == null) {
            if (random.nextInt(100) < 35) {
                act();
            } else {
                ask();
            }
        }
    }

    /** Most runs begin with a ring that soon has a token and something to send. */
    private void open() {
        if (random.nextInt(8) > 0) {
            n = 2 + random.nextInt(7);
            call("begin", n);
        }
        if (random.nextInt(8) > 0) {
            call("state", random.nextInt());
        }
        int base = 20 + random.nextInt(random.nextBoolean() ? 60 : 300);
        for (int i = 0; i < n; i++) {
            call("bid", i, base + random.nextInt(random.nextBoolean() ? 3 : 120));
            call("share", i, random.nextInt(12));
            if (random.nextInt(3) > 0) {
                call("stream", i, 20 + random.nextInt(random.nextBoolean() ? 60 : 400), 1 + random.nextInt(25));
            }
        }
        if (random.nextBoolean()) {
            call("set", 1, 50 + random.nextInt(60));
            call("set", 2, 5 + random.nextInt(30));
        }
        if (random.nextInt(3) == 0) {
            for (int p = 3; p <= 5; p++) {
                call("set", p, random.nextInt(base));
            }
        }
        call("claim", random.nextInt(n));
        call("tick", 1 + random.nextInt(80));
    }

    private int some() {
        return random.nextInt(25) == 0 ? random.nextInt(n + 4) - 2 : random.nextInt(n);
    }

    private int odd(int least, int most) {
        int at = random.nextInt(20);
        if (at == 0) {
            return least - 1;
        }
        if (at == 1) {
            return most + 1;
        }
        if (at == 2) {
            return random.nextBoolean() ? Integer.MIN_VALUE : Integer.MAX_VALUE;
        }
        if (at == 3) {
            return least;
        }
        if (at == 4) {
            return most;
        }
        return least + random.nextInt(most - least + 1);
    }

    private int few(int bound) {
        return random.nextInt(20) == 0 ? odd(1, 300) : 1 + random.nextInt(bound);
    }

    private void act() {
        switch (random.nextInt(42)) {
            case 0:
                if (random.nextInt(8) == 0) {
                    int m = odd(2, 8);
                    if (call("begin", m) == 1) {
                        n = m;
                    }
                }
                break;
            case 1:
                call("set", odd(0, 5), odd(0, 60));
                break;
            case 2:
                int what = odd(0, 5);
                int most = what < 1 || what > 2 ? 500 : what == 1 ? 120 : 50;
                call("set", what, what == 0 ? odd(1, 50) : odd(what == 1 ? 50 : what == 2 ? 5 : 0, most));
                break;
            case 3:
            case 4:
                call("delay", some(), random.nextBoolean() ? 1 + random.nextInt(3) : odd(1, 20));
                break;
            case 5:
                call("cut", some(), true);
                break;
            case 6:
            case 7:
                call("cut", some(), false);
                break;
            case 8:
                call("bid", some(), odd(10, 500));
                break;
            case 9:
                call("bid", some(), 30 + random.nextInt(90));
                break;
            case 10:
            case 11:
                call("share", some(), random.nextBoolean() ? random.nextInt(20) : odd(0, 200));
                break;
            case 12:
                call("stream", some(), random.nextInt(6) == 0 ? 0 : odd(20, 999), odd(1, 99));
                break;
            case 13:
            case 14:
                call("stream", some(), 20 + random.nextInt(60), 1 + random.nextInt(20));
                break;
            case 15:
            case 16:
            case 17:
                call("frame", some(), some(), odd(1, 3), few(10));
                break;
            case 18:
                call("out", some(), true);
                break;
            case 19:
            case 20:
                call("out", some(), false);
                break;
            case 21:
            case 22:
                call("storm", odd(1, 30));
                break;
            case 23:
                call("claim", some());
                break;
            case 24:
                call("lose");
                break;
            case 25:
            case 26:
                call("doubled", some());
                break;
            case 27:
                call("image", random.nextInt(3) > 0);
                n = (int) call("look", 6);
                break;
            case 28:
                call("tick", odd(1, 300));
                break;
            case 29:
            case 30:
            case 31:
                call("tick", few(70));
                break;
            default:
                call("tick", few(12));
                break;
        }
    }

    private void ask() {
        switch (random.nextInt(40)) {
            case 0:
                call("queued", some(), odd(0, 7), odd(0, 3));
                break;
            case 1:
                call("queued", some(), 0, odd(0, 3));
                break;
            case 2:
                call("link", some(), odd(0, 2));
                break;
            case 3:
            case 4:
            case 5:
                call("message", random.nextInt(4), odd(0, 4));
                break;
            case 6:
                call("suspects");
                break;
            case 7:
                call("sure", some());
                break;
            case 8:
                call("dealt", odd(0, 2), some());
                break;
            case 9:
                call("fits", odd(0, 2));
                break;
            case 10:
                call("least");
                break;
            case 11:
                call("load", random.nextInt(3) == 0 ? random.nextLong() >>> random.nextInt(64) : random.nextInt(100));
                break;
            case 12:
                call("mean", some());
                break;
            case 13:
                if (random.nextInt(3) == 0) {
                    call("found", random.nextInt(12) == 0 ? odd(0, 1) : random.nextInt(2));
                }
                break;
            case 14:
                call("would", few(100), odd(0, 5));
                break;
            case 15:
                if (random.nextInt(3) == 0) {
                    call("asked", some(), some(), odd(1, 3), few(10));
                }
                break;
            case 16:
            case 17:
                call("book", random.nextInt(50) == 0 ? odd(0, 41) : random.nextInt(4), odd(0, 4));
                break;
            case 18:
            case 19:
            case 20:
                call("log", random.nextInt(8) == 0 ? odd(0, 61) : random.nextInt(4), odd(0, 3));
                break;
            case 21:
            case 22:
                call("count", odd(0, 7));
                break;
            case 23:
            case 24:
            case 25:
            case 26:
                call("look", odd(0, 23));
                break;
            default:
                call("station", some(), odd(0, 26));
                break;
        }
    }

    private long call(String name, Object... args) {
        if (calls.size() >= CALLS || wrong != null) {
            return 0;
        }
        calls.add(name + java.util.Arrays.toString(args));
        long got = answer(CLASS_METHODS.get(name), token, args);
        long want = answer(MODEL_METHODS.get(name), model, args);
        if (got != want) {
            wrong = calls.get(calls.size() - 1) + " answered " + got + ", by the model " + want;
        }
        return got;
    }

    private static long answer(Method method, Object target, Object[] args) {
        try {
            Object[] fitting = args.clone();
            for (int i = 0; i < fitting.length; i++) {
                if (method.getParameterTypes()[i] == long.class) {
                    fitting[i] = ((Number) fitting[i]).longValue();
                }
            }
            Object got = method.invoke(target, fitting);
            return got instanceof Boolean is ? (is ? 1 : 0) : ((Number) got).longValue();
        } catch (IllegalAccessException | InvocationTargetException e) {
            throw new IllegalStateException(method.getName() + " threw", e);
        }
    }
}
