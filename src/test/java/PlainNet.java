import java.util.ArrayList;
import java.util.HashSet;
import java.util.List;
import java.util.NoSuchElementException;
import java.util.Set;

/** The document told over again as plainly and slowly as it can be, to compare CarrierNet with. */
final class PlainNet {
    static final int NONE = -1;
    static final int NEVER = Integer.MAX_VALUE;

    static final class PlainCart {
        int weekdays;
        int hour;
        int room;
        int fare;
        int fares;
        final List<int[]> stops = new ArrayList<>();
        final Set<Integer> snow = new HashSet<>();

        boolean goes(int day) {
            return day >= 0 && (weekdays & 1 << day % 7) != 0 && !snow.contains(day);
        }

        int at(int day, int stop) {
            return 24 * day + hour + stops.get(stop)[1];
        }
    }

    static final class PlainParcel {
        int to;
        int size;
        int place;
        PlainCart on;
        int day;
        int stop;
        int came = NONE;
        int rides;
    }

    final List<PlainCart> carts = new ArrayList<>();
    final List<PlainParcel> parcels = new ArrayList<>();
    final int[][] walks = new int[9][9];
    final int[] minutes = new int[9];
    final int[] worths = new int[9];
    final boolean[] listed = new boolean[9];
    int now;
    int snowTold;
    private List<Integer> bestShops;
    private int bestWorth;
    private int bestMinutes;

    PlainNet() {
        for (int[] row : walks) {
            java.util.Arrays.fill(row, 10);
        }
    }

    static boolean out(int x, int least, int most) {
        return x < least || x > most;
    }

    boolean noCart(int cart) {
        return out(cart, 0, carts.size() - 1);
    }

    boolean laden(PlainCart cart) {
        for (PlainParcel p : parcels) {
            if (p.on == cart) {
                return true;
            }
        }
        return false;
    }

    int cart(int weekdays, int hour, int room, int fare, int place) {
        if (out(weekdays, 0, 127) || out(hour, 0, 23) || out(room, 0, 50) || out(fare, 0, 20)
                || out(place, 0, 11) || carts.size() == 12) {
            return NONE;
        }
        PlainCart c = new PlainCart();
        c.weekdays = weekdays;
        c.hour = hour;
        c.room = room;
        c.fare = fare;
        c.stops.add(new int[] {place, 0});
        carts.add(c);
        return carts.size() - 1;
    }

    int stop(int cart, int place, int offset) {
        if (noCart(cart) || out(place, 0, 11)) {
            return NONE;
        }
        PlainCart c = carts.get(cart);
        int last = c.stops.get(c.stops.size() - 1)[1];
        if (offset <= last || offset > 60 || c.stops.size() == 6 || laden(c)) {
            return NONE;
        }
        c.stops.add(new int[] {place, offset});
        return c.stops.size();
    }

    boolean change(int cart, int weekdays, int room, int fare) {
        if (noCart(cart) || out(weekdays, 0, 127) || out(room, 0, 50) || out(fare, 0, 20)) {
            return false;
        }
        PlainCart c = carts.get(cart);
        if (laden(c)) {
            return false;
        }
        c.weekdays = weekdays;
        c.room = room;
        c.fare = fare;
        return true;
    }

    boolean snow(int cart, int day) {
        if (noCart(cart) || day <= now / 24 || day > 300 || snowTold == 100) {
            return false;
        }
        if (!carts.get(cart).snow.add(day)) {
            return false;
        }
        snowTold++;
        return true;
    }

    int runs(int cart, int day) {
        if (noCart(cart) || out(day, 0, 300)) {
            return NONE;
        }
        return carts.get(cart).goes(day) ? 1 : 0;
    }

    /** SOON, or NONE; no ride on the cart that is left out. */
    int soonest(int from, int t, int to, PlainCart without) {
        int[] at = new int[12];
        java.util.Arrays.fill(at, NEVER);
        at[from] = t;
        boolean better = true;
        while (better) {
            better = false;
            for (PlainCart c : carts) {
                for (int day = Math.max(0, t / 24 - 4); c != without && day <= (t + 336) / 24; day++) {
                    if (c.goes(day) && improve(at, c, day, t + 336)) {
                        better = true;
                    }
                }
            }
        }
        return at[to] == NEVER ? NONE : at[to];
    }

    private static boolean improve(int[] at, PlainCart c, int day, int limit) {
        boolean better = false;
        for (int i = 0; i < c.stops.size(); i++) {
            for (int j = i + 1; j < c.stops.size(); j++) {
                int end = c.stops.get(j)[0];
                if (c.at(day, i) >= at[c.stops.get(i)[0]] && c.at(day, j) < at[end] && c.at(day, j) <= limit) {
                    at[end] = c.at(day, j);
                    better = true;
                }
            }
        }
        return better;
    }

    int soon(int from, int hour, int to) {
        if (out(from, 0, 11) || out(to, 0, 11) || out(hour, 0, 6000)) {
            return NONE;
        }
        return soonest(from, hour, to, null);
    }

    int reach(int from, int hour, int by) {
        if (out(from, 0, 11) || out(hour, 0, 6000) || out(by, 0, 6000) || by < hour || by > hour + 336) {
            return NONE;
        }
        int bits = 0;
        for (int p = 0; p < 12; p++) {
            int s = soonest(from, hour, p, null);
            if (s != NONE && s <= by) {
                bits |= 1 << p;
            }
        }
        return bits;
    }

    int cut(int cart, int hour, int to) {
        if (noCart(cart) || out(hour, 0, 6000) || out(to, 0, 11)) {
            return NONE;
        }
        int bits = 0;
        for (int p = 0; p < 12; p++) {
            if (soonest(p, hour, to, null) != NONE && soonest(p, hour, to, carts.get(cart)) == NONE) {
                bits |= 1 << p;
            }
        }
        return bits;
    }

    int parcel(int from, int to, int size) {
        if (out(from, 0, 11) || out(to, 0, 11) || from == to || out(size, 1, 20) || parcels.size() == 60) {
            return NONE;
        }
        PlainParcel p = new PlainParcel();
        p.place = from;
        p.to = to;
        p.size = size;
        parcels.add(p);
        return parcels.size() - 1;
    }

    int left(PlainCart c, int day) {
        int left = c.room;
        for (PlainParcel p : parcels) {
            if (p.on == c && p.day == day) {
                left -= p.size;
            }
        }
        return left;
    }

    int tick(int n) {
        if (out(n, 0, 500) || now + n > 5000) {
            return NONE;
        }
        for (int i = 0; i < n; i++) {
            hour();
        }
        return now;
    }

    private void hour() {
        now++;
        for (PlainParcel p : parcels) {
            if (p.on != null && p.on.at(p.day, p.stop) == now) {
                p.place = p.on.stops.get(p.stop)[0];
                p.on.fares += p.size * p.on.fare;
                p.on = null;
                if (p.place == p.to) {
                    p.came = now;
                }
            }
        }
        for (PlainParcel p : parcels) {
            if (p.on == null && p.came == NONE) {
                ride(p);
            }
        }
    }

    private void ride(PlainParcel p) {
        int here = -2;
        for (PlainCart c : carts) {
            for (int day = Math.max(0, now / 24 - 4); day <= now / 24; day++) {
                for (int i = 0; c.goes(day) && i < c.stops.size() - 1; i++) {
                    if (c.at(day, i) != now || c.stops.get(i)[0] != p.place || left(c, day) < p.size) {
                        continue;
                    }
                    here = here == -2 ? soonest(p.place, now, p.to, null) : here;
                    for (int j = c.stops.size() - 1; here != NONE && j > i; j--) {
                        if (soonest(c.stops.get(j)[0], c.at(day, j), p.to, null) == here) {
                            p.on = c;
                            p.day = day;
                            p.stop = j;
                            p.rides++;
                            return;
                        }
                    }
                }
            }
        }
    }

    int told(int parcel, int what) {
        if (out(parcel, 0, parcels.size() - 1) || out(what, 0, 7)) {
            throw new NoSuchElementException();
        }
        PlainParcel p = parcels.get(parcel);
        boolean rides = p.on != null;
        int[] all = {p.to, p.size, rides ? NONE : p.place, rides ? carts.indexOf(p.on) : NONE,
            rides ? p.day : NONE, rides ? p.on.at(p.day, p.stop) : NONE, p.came, p.rides};
        return all[what];
    }

    int waiting(int place) {
        if (out(place, 0, 11)) {
            return NONE;
        }
        return (int) parcels.stream().filter(p -> p.on == null && p.came == NONE && p.place == place).count();
    }

    int fares(int cart) {
        return noCart(cart) ? NONE : carts.get(cart).fares;
    }

    int room(int cart, int day) {
        return noCart(cart) || !carts.get(cart).goes(day) ? NONE : left(carts.get(cart), day);
    }

    boolean walk(int one, int other, int min) {
        if (out(one, 0, 8) || out(other, 0, 8) || one == other || out(min, 0, 60)) {
            return false;
        }
        walks[one][other] = min;
        walks[other][one] = min;
        return true;
    }

    boolean errand(int shop, int min, int worth) {
        if (out(shop, 1, 8) || out(min, 0, 60) || out(worth, 0, 100)) {
            return false;
        }
        listed[shop] = true;
        minutes[shop] = min;
        worths[shop] = worth;
        return true;
    }

    void clear() {
        java.util.Arrays.fill(listed, false);
    }

    int best(int within, int what) {
        if (out(within, 0, 500) || out(what, 0, 2)) {
            return NONE;
        }
        seek(within);
        return new int[] {bestWorth, bestMinutes, bestShops.size()}[what];
    }

    int round(int within, int i) {
        if (out(within, 0, 500)) {
            return NONE;
        }
        seek(within);
        return out(i, 0, bestShops.size() - 1) ? NONE : bestShops.get(i);
    }

    private void seek(int within) {
        bestShops = null;
        goOn(within, new ArrayList<>(), 0, 0);
    }

    /** Goes through the rounds in their order, so that of alike ones the first found stays. */
    private void goOn(int within, List<Integer> shops, int worth, int time) {
        int at = shops.isEmpty() ? 0 : shops.get(shops.size() - 1);
        int whole = shops.isEmpty() ? 0 : time + walks[at][0];
        if (whole <= within && (bestShops == null || worth > bestWorth || worth == bestWorth && whole < bestMinutes)) {
            bestShops = new ArrayList<>(shops);
            bestWorth = worth;
            bestMinutes = whole;
        }
        for (int s = 1; s <= 8; s++) {
            if (listed[s] && !shops.contains(s)) {
                shops.add(s);
                goOn(within, shops, worth + worths[s], time + walks[at][s] + minutes[s]);
                shops.remove(shops.size() - 1);
            }
        }
    }

    int count(int what) {
        switch (what) {
            case 0: return now;
            case 1: return carts.size();
            case 2: return parcels.size();
            case 3: return (int) parcels.stream().filter(p -> p.came != NONE).count();
            case 4: return (int) parcels.stream().filter(p -> p.on != null).count();
            case 5: return snowTold;
            case 6: return carts.stream().mapToInt(c -> c.fares).sum();
            case 7:
                int n = 0;
                for (boolean b : listed) {
                    n += b ? 1 : 0;
                }
                return n;
            default: return NONE;
        }
    }
}
