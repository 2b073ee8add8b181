import java.util.ArrayList;
import java.util.Arrays;
import java.util.List;
import java.util.NoSuchElementException;

/** A net that refused a call beside one that was never asked: whatever is asked later, they must answer alike. */
final class Twins {
    private static final int MOST_CALLS = 512;

    /** A net that writes down what it answers. */
    private static final class Heard {
        final CarrierNet net;
        final List<String> answers = new ArrayList<>();

        Heard(CarrierNet net) {
            this.net = net;
        }

        long ask(String name, int... arguments) {
            long answer = Twins.ask(net, name, arguments);
            answers.add(written(name, arguments) + " = " + answer);
            return answer;
        }
    }

    private interface Future {
        void ask(Heard x);
    }

    private static final List<Future> FUTURES = List.of(Twins::carts, Twins::ways, Twins::parcels, Twins::hours,
        Twins::errands, Twins::whatIsLeft);

    private Twins() {
    }

    static String written(String name, int... arguments) {
        return name + Arrays.toString(arguments).replace('[', '(').replace(']', ')');
    }

    static long ask(CarrierNet x, String name, int... a) {
        switch (name) {
            case "cart": return x.cart(a[0], a[1], a[2], a[3], a[4]);
            case "stop": return x.stop(a[0], a[1], a[2]);
            case "change": return x.change(a[0], a[1], a[2], a[3]) ? 1 : 0;
            case "snow": return x.snow(a[0], a[1]) ? 1 : 0;
            case "runs": return x.runs(a[0], a[1]);
            case "soon": return x.soon(a[0], a[1], a[2]);
            case "reach": return x.reach(a[0], a[1], a[2]);
            case "cut": return x.cut(a[0], a[1], a[2]);
            case "parcel": return x.parcel(a[0], a[1], a[2]);
            case "tick": return x.tick(a[0]);
            case "told": return told(x, a[0], a[1]);
            case "waiting": return x.waiting(a[0]);
            case "fares": return x.fares(a[0]);
            case "room": return x.room(a[0], a[1]);
            case "walk": return x.walk(a[0], a[1], a[2]) ? 1 : 0;
            case "errand": return x.errand(a[0], a[1], a[2]) ? 1 : 0;
            case "best": return x.best(a[0], a[1]);
            case "round": return x.round(a[0], a[1]);
            case "count": return x.count(a[0]);
            default: throw new IllegalArgumentException(name);
        }
    }

    private static long told(CarrierNet x, int parcel, int what) {
        try {
            return x.told(parcel, what);
        } catch (NoSuchElementException e) {
            return Checks.THROWN;
        }
    }

    /** The first answers that are not alike; null if there are none. */
    static String difference(Checks.Story story, String name, int... arguments) {
        for (Future future : FUTURES) {
            Heard asked = new Heard(Checks.after(story));
            ask(asked.net, name, arguments);
            future.ask(asked);
            Heard other = new Heard(Checks.after(story));
            future.ask(other);
            if (asked.answers.size() > MOST_CALLS) {
                return "the test asks more than an object is made for";
            }
            for (int i = 0; i < other.answers.size(); i++) {
                if (!asked.answers.get(i).equals(other.answers.get(i))) {
                    return asked.answers.get(i) + ", else " + other.answers.get(i);
                }
            }
        }
        return null;
    }

    private static void counts(Heard x) {
        for (int what = 0; what < 8; what++) {
            x.ask("count", what);
        }
    }

    private static void carts(Heard x) {
        counts(x);
        int today = (int) x.ask("count", 0) / 24;
        for (int cart = 0; cart < 12; cart++) {
            x.ask("fares", cart);
            for (int day : new int[] {0, 1, 2, 3, 4, 5, 6, 7, 9, 299, 300}) {
                x.ask("runs", cart, day);
            }
            for (int day = today - 3; day < today + 3; day++) {
                x.ask("room", cart, day);
            }
        }
    }

    private static void ways(Heard x) {
        int now = (int) x.ask("count", 0);
        for (int from = 0; from < 12; from++) {
            x.ask("reach", from, now, Math.min(now + 336, 6000));
            for (int to = 0; to < 12; to++) {
                x.ask("soon", from, now, to);
            }
        }
        for (int cart = 0; cart < 12; cart++) {
            x.ask("cut", cart, now, 2);
        }
    }

    private static void parcels(Heard x) {
        for (int parcel = 0; parcel < 60; parcel++) {
            for (int what : new int[] {0, 2, 3, 5}) {
                x.ask("told", parcel, what);
            }
        }
    }

    private static void hours(Heard x) {
        for (int n : new int[] {1, 5, 24, 100, 400}) {
            x.ask("tick", n);
            counts(x);
            for (int i = 0; i < 12; i++) {
                x.ask("waiting", i);
                x.ask("fares", i);
            }
            for (int parcel = 0; parcel < 6; parcel++) {
                x.ask("told", parcel, 6);
                x.ask("told", parcel, 7);
            }
        }
    }

    private static void errands(Heard x) {
        for (int within : new int[] {0, 25, 60, 120, 500}) {
            for (int what = 0; what < 3; what++) {
                x.ask("best", within, what);
            }
            for (int i = 0; i < 8; i++) {
                x.ask("round", within, i);
            }
        }
        for (int shop = 1; shop <= 8; shop++) {
            x.ask("errand", shop, 0, 1);
            x.ask("best", 500, 0);
            x.ask("best", 500, 1);
        }
    }

    /** How many carts, stops, parcels and days of snow can still be told. */
    private static void whatIsLeft(Heard x) {
        for (int cart = 0; cart < 12; cart++) {
            x.ask("stop", cart, 2, 60);
        }
        for (int i = 0; i < 13; i++) {
            x.ask("cart", 127, 2, 3, 4, 5);
        }
        for (int i = 0; i < 61; i++) {
            x.ask("parcel", 5, 2, 1);
        }
        for (int i = 0; i < 101; i++) {
            x.ask("snow", 11, 300 - i % 90);
            x.ask("snow", 0, 300 - i % 90);
        }
        x.ask("tick", 30);
        counts(x);
    }
}
