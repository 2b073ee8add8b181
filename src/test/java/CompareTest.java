import java.lang.reflect.InvocationTargetException;
import java.lang.reflect.Method;
import java.util.Arrays;
import java.util.HashMap;
import java.util.Map;
import java.util.Random;

/** Random runs of calls, the same ones every time, on CarrierNet and on PlainNet: the answers must be alike. */
public final class CompareTest {
    private static final int[] WILD = {-1, -2, Integer.MIN_VALUE, Integer.MAX_VALUE, 12, 13, 24, 51, 61, 128,
        301, 501, 5001, 6001, 1000000};

    private static final Map<String, Method> NET = methodsOf(CarrierNet.class);
    private static final Map<String, Method> PLAIN = methodsOf(PlainNet.class);

    private final Random random;
    private final CarrierNet net = new CarrierNet();
    private final PlainNet plain = new PlainNet();
    private final StringBuilder story = new StringBuilder();
    private final int style;
    private final int wildness;
    private int come;

    private CompareTest(long seed, int style) {
        this.random = new Random(seed);
        this.style = style;
        this.wildness = random.nextInt(3) == 0 ? 12 : 60;
    }

    private int in(int least, int most) {
        if (random.nextInt(wildness) == 0) {
            int kind = random.nextInt(3);
            return kind == 0 ? least - 1 : kind == 1 ? most + 1 : WILD[random.nextInt(WILD.length)];
        }
        return tame(least, most);
    }

    private int tame(int least, int most) {
        int kind = random.nextInt(20);
        return kind == 0 ? least : kind == 1 ? most : least + random.nextInt(most - least + 1);
    }

    private static final String[] NAMES = {"cart", "stop", "change", "snow", "runs", "soon", "reach", "cut", "parcel",
        "tick", "told", "waiting", "fares", "room", "walk", "errand", "clear", "best", "round", "count"};

    private static Map<String, Method> methodsOf(Class<?> type) {
        Map<String, Method> methods = new HashMap<>();
        for (Method m : type.getDeclaredMethods()) {
            methods.put(m.getName(), m);
        }
        return methods;
    }

    /** The answer as a text, or the name of what was thrown. */
    private static String answer(Object net, Method method, int[] a) {
        Object[] given = Arrays.stream(a).boxed().toArray();
        try {
            return String.valueOf(method.invoke(net, given));
        } catch (InvocationTargetException e) {
            return "throws." + e.getCause().getClass().getSimpleName();
        } catch (IllegalAccessException e) {
            throw new IllegalStateException(e);
        }
    }

    private boolean alike(int call, int... a) {
        String got = answer(net, NET.get(NAMES[call]), a);
        String due = answer(plain, PLAIN.get(NAMES[call]), a);
        story.append(NAMES[call]).append(Arrays.toString(a)).append(" = ").append(got).append('\n');
        if (!got.equals(due)) {
            System.out.println(story + "due is " + due);
        }
        return got.equals(due);
    }

    /** Carts that go once a week and much snow: often the soonest hour is more than 336 away. */
    private boolean isSparse() {
        return style >= 9;
    }

    private int weekdays() {
        if (isSparse() && random.nextInt(8) != 0) {
            return 1 << random.nextInt(7);
        }
        int kind = (style + random.nextInt(3)) % 4;
        return kind == 0 ? 127 : kind == 1 ? 1 << random.nextInt(7) : in(0, 127);
    }

    private int places() {
        return style % 3 == 0 ? 5 : style % 3 == 1 ? 8 : 11;
    }

    private int place() {
        return in(0, places());
    }

    private int cartNumber() {
        return in(0, Math.max(0, plain.carts.size() - 1));
    }

    private int hourAsked() {
        return random.nextInt(3) == 0 ? in(0, 6000) : in(plain.now, plain.now + 100);
    }

    private int dayAsked() {
        int today = plain.now / 24;
        return random.nextInt(3) == 0 ? in(0, 300) : in(Math.max(0, today - 4), today + 5);
    }

    private boolean makeCarts(int carts) {
        for (int c = 0; c < carts; c++) {
            boolean roomy = random.nextInt(3) == 0;
            if (!alike(0, weekdays(), in(0, 23), roomy ? in(20, 50) : in(0, 25), in(0, 20), place())) {
                return false;
            }
            int offset = 0;
            int step = random.nextBoolean() ? 5 : 24;
            for (int s = 1 + random.nextInt(5); s > 0; s--) {
                offset += random.nextInt(6) == 0 ? 24 : 1 + random.nextInt(step);
                if (!alike(1, c, place(), offset)) {
                    return false;
                }
            }
        }
        return true;
    }

    private boolean makeSnow(int days) {
        for (int i = 0; i < days; i++) {
            int cart = random.nextInt(plain.carts.size());
            int day = plain.now / 24 + 1 + random.nextInt(80);
            if (plain.runs(cart, day) == 1 && !alike(3, cart, day)) {
                return false;
            }
        }
        return true;
    }

    private boolean carrierCall() {
        switch (random.nextInt(24)) {
            case 0: return alike(0, weekdays(), in(0, 23), in(0, 50), in(0, 20), place());
            case 1: return alike(1, cartNumber(), place(), in(1, 60));
            case 2: return alike(2, cartNumber(), weekdays(), in(0, 50), in(0, 20));
            case 3: return alike(3, cartNumber(), dayAsked());
            case 4: return alike(4, cartNumber(), dayAsked());
            case 5: return alike(5, place(), hourAsked(), place());
            case 6:
                int from = hourAsked();
                return alike(6, place(), from, in(from - 1, random.nextBoolean() ? from + 337 : from + 50));
            case 7: return alike(7, cartNumber(), hourAsked(), place());
            case 8: case 9: case 10: case 11: return alike(8, place(), place(), in(1, 20));
            case 12: case 13: return alike(9, in(0, 30));
            case 14: return alike(9, random.nextInt(8) == 0 ? in(0, 500) : in(0, 60));
            case 15: case 16: return tellAll();
            case 17: return alike(11, place());
            case 18: return alike(12, cartNumber());
            case 19: case 20: return alike(13, cartNumber(), dayAsked());
            case 21: case 22: return alike(3, cartNumber(), plain.now / 24 + in(1, 3));
            default: return alike(19, in(0, 7));
        }
    }

    private boolean tellAll() {
        int parcel = in(0, Math.max(0, plain.parcels.size() - 1));
        boolean alike = alike(10, parcel, in(0, 7));
        for (int what = 2; alike && what < 8; what++) {
            alike = alike(10, parcel, what);
        }
        return alike;
    }

    private boolean carrierRun() {
        if (!makeCarts(1 + random.nextInt(12)) || isSparse() && plain.count(1) > 0 && !makeSnow(random.nextInt(300))) {
            return false;
        }
        for (int i = 0; i < 400; i++) {
            if (!carrierCall()) {
                return false;
            }
        }
        for (int parcel = 0; parcel < plain.parcels.size(); parcel++) {
            for (int what = 0; what < 8; what++) {
                if (!alike(10, parcel, what)) {
                    return false;
                }
            }
        }
        come = plain.count(3);
        return true;
    }

    private boolean errandCall(int most) {
        switch (random.nextInt(8)) {
            case 0: return alike(15, in(1, 8), in(0, most), in(0, random.nextBoolean() ? 3 : 100));
            case 1: return alike(14, in(0, 8), in(0, 8), in(0, most));
            case 2: return random.nextInt(10) != 0 || alike(16);
            case 3: return alike(19, 7);
            default:
                int within = in(0, random.nextBoolean() ? 500 : 80);
                boolean alike = alike(17, within, 0) && alike(17, within, 1) && alike(17, within, in(0, 2));
                for (int i = 0; alike && i < 9; i++) {
                    alike = alike(18, within, i);
                }
                return alike && alike(18, within, in(0, 8));
        }
    }

    private boolean errandRun() {
        int most = new int[] {0, 1, 3, 20, 60}[random.nextInt(5)];
        int shops = random.nextInt(6) == 0 ? 8 : random.nextInt(7);
        for (int s = 0; s < shops; s++) {
            if (!alike(15, shops == 8 ? s + 1 : in(1, 8), in(0, most), in(0, random.nextBoolean() ? 1 : 100))) {
                return false;
            }
        }
        for (int i = 0; i < 50; i++) {
            if (!alike(14, in(0, 8), in(0, 8), in(0, most))) {
                return false;
            }
        }
        for (int i = 0; i < (shops == 8 ? 6 : 30); i++) {
            if (!errandCall(most)) {
                return false;
            }
        }
        return true;
    }

    public static void main(String[] args) {
        int runs = args.length > 0 ? Integer.parseInt(args[0]) : 150;
        long first = args.length > 1 ? Long.parseLong(args[1]) : 0;
        int wrong = 0;
        int come = 0;
        for (long seed = first; seed < first + runs && wrong < 3; seed++) {
            CompareTest carriers = new CompareTest(seed, (int) (seed % 12));
            CompareTest errands = new CompareTest(seed, (int) (seed % 12));
            wrong += carriers.carrierRun() ? 0 : 1;
            wrong += errands.errandRun() ? 0 : 1;
            come += carriers.come;
        }
        System.out.println("CompareTest: " + runs + " runs, " + come + " parcels came, " + wrong + " wrong");
        if (wrong != 0 || come == 0) {
            System.exit(1);
        }
    }
}
