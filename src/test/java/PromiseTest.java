/** Each promise of the document, quoted whole, by hand: ordinary inputs, the edges it names, and wrong inputs. */
public final class PromiseTest extends Checks {
    private static void p1NewObject() {
        doc("`CarrierNet()`: NOW 0, no CARTS.");
        CarrierNet x = new CarrierNet();
        for (int what = 0; what < 8; what++) {
            due("new count " + what, 0, x.count(what));
        }
        due("new fares", NONE, x.fares(0));
        due("new runs", NONE, x.runs(0, 0));
        due("new told", THROWN, told(x, 0, 0));
        due("new waiting", 0, x.waiting(3));
        due("new soon, same place", 9, x.soon(4, 9, 4));
        due("new soon, same place", 0, x.soon(0, 0, 0));
        due("new soon, other place", NONE, x.soon(4, 9, 5));
    }

    private static void p2Cart() {
        doc("`int cart(int weekdays, int hour, int room, int fare, int place)`: A CART with a first STOP: its "
            + "number. NONE: out of bounds (weekdays 0 .. 127), there are twelve.");
        CarrierNet x = new CarrierNet();
        int[][] bad = {{-1, 0, 0, 0, 0}, {128, 0, 0, 0, 0}, {0, -1, 0, 0, 0}, {0, 24, 0, 0, 0}, {0, 0, -1, 0, 0},
            {0, 0, 51, 0, 0}, {0, 0, 0, -1, 0}, {0, 0, 0, 21, 0}, {0, 0, 0, 0, -1}, {0, 0, 0, 0, 12},
            {LOW, 0, 0, 0, 0}, {0, HIGH, 0, 0, 0}, {0, 0, LOW, 0, 0}, {0, 0, 0, HIGH, 0}, {0, 0, 0, 0, LOW}};
        for (int[] b : bad) {
            due("bad cart", NONE, x.cart(b[0], b[1], b[2], b[3], b[4]));
        }
        due("no cart yet", 0, x.count(1));
        for (int i = 0; i < 12; i++) {
            due("cart", i, i % 2 == 0 ? x.cart(0, 0, 0, 0, 0) : x.cart(127, 23, 50, 20, 11));
        }
        due("thirteenth cart", NONE, x.cart(1, 1, 1, 1, 1));
        due("carts", 12, x.count(1));
    }

    private static void p3Stop() {
        doc("`int stop(int cart, int place, int offset)`: A STOP behind the others of a CART: how many it has. NONE: "
            + "no such CART, PLACE, OFFSET; it has six; a PARCEL is on it.");
        CarrierNet x = new CarrierNet();
        x.cart(127, 1, 5, 1, 0);
        due("no cart", NONE, x.stop(1, 0, 1));
        due("no cart", NONE, x.stop(-1, 0, 1));
        due("no place", NONE, x.stop(0, 12, 1));
        due("no place", NONE, x.stop(0, -1, 1));
        due("offset 0", NONE, x.stop(0, 1, 0));
        due("offset below", NONE, x.stop(0, 1, LOW));
        due("offset 61", NONE, x.stop(0, 1, 61));
        due("second", 2, x.stop(0, 1, 1));
        due("offset alike", NONE, x.stop(0, 2, 1));
        due("same place again", 3, x.stop(0, 1, 2));
        due("first place again", 4, x.stop(0, 0, 3));
        due("fifth", 5, x.stop(0, 4, 58));
        due("sixth", 6, x.stop(0, 5, 59));
        due("seventh", NONE, x.stop(0, 6, 60));
        due("soon to the sixth", 60, x.soon(0, 0, 5));
        due("none to the seventh", NONE, x.soon(0, 0, 6));
        x.cart(127, 1, 5, 1, 0);
        due("offset 60", 2, x.stop(1, 7, 60));
        due("soon by it", 61, x.soon(0, 0, 7));

        CarrierNet y = new CarrierNet();
        line(y, terms(127, 1, 5, 1), 0, 1, 10);
        y.parcel(0, 1, 1);
        due("given, not on it", 3, y.stop(0, 2, 20));
        y.tick(1);
        due("parcel is on it", NONE, y.stop(0, 3, 30));
        y.tick(9);
        due("still on it", NONE, y.stop(0, 3, 30));
        y.tick(1);
        due("left it", 4, y.stop(0, 3, 30));
    }

    private static void p4Change() {
        doc("`boolean change(int cart, int weekdays, int room, int fare)`: Weekdays, ROOM and FARE of a CART are "
            + "others. False: no such one, out of bounds, a PARCEL is on it.");
        CarrierNet x = new CarrierNet();
        line(x, terms(127, 1, 5, 1), 0, 1, 10);
        no("no cart", x.change(1, 1, 1, 1));
        no("no cart", x.change(-1, 1, 1, 1));
        int[][] bad = {{-1, 0, 0}, {128, 0, 0}, {0, -1, 0}, {0, 51, 0}, {0, 0, -1}, {0, 0, 21}};
        for (int[] b : bad) {
            no("bad change", x.change(0, b[0], b[1], b[2]));
        }
        due("unchanged", 1, x.runs(0, 0));
        due("unchanged", 5, x.room(0, 0));
        yes("change", x.change(0, 2, 50, 20));
        due("weekday 0", 0, x.runs(0, 0));
        due("weekday 1", 1, x.runs(0, 8));
        due("new room", 50, x.room(0, 1));
        due("soon", 35, x.soon(0, 0, 1));
        x.parcel(0, 1, 3);
        x.tick(25);
        no("a parcel is on it", x.change(0, 127, 5, 1));
        x.tick(10);
        due("new fare", 60, x.fares(0));
        yes("it has left", x.change(0, 0, 0, 0));
        due("never more", NONE, x.soon(0, 30, 1));
    }

    private static void p5Snow() {
        doc("`boolean snow(int cart, int day)`: SNOW for a CART on a DAY. False: no such CART, the DAY is not behind "
            + "that of NOW, above 300, told already; 100 were.");
        CarrierNet x = new CarrierNet();
        line(x, terms(127, 1, 5, 1), 0, 1, 10);
        no("no cart", x.snow(1, 5));
        no("no cart", x.snow(-1, 5));
        no("today", x.snow(0, 0));
        no("ahead", x.snow(0, -1));
        no("above 300", x.snow(0, 301));
        no("far above", x.snow(0, HIGH));
        yes("300", x.snow(0, 300));
        yes("1", x.snow(0, 1));
        no("told already", x.snow(0, 1));
        due("two told", 2, x.count(5));
        due("day 1", 0, x.runs(0, 1));
        due("day 300", 0, x.runs(0, 300));
        due("soon past the snow", 59, x.soon(0, 2, 1));
        due("tick", 47, x.tick(47));
        no("today", x.snow(0, 1));
        yes("tomorrow", x.snow(0, 2));
        due("tick", 48, x.tick(1));
        no("today now", x.snow(0, 2));

        CarrierNet y = new CarrierNet();
        y.cart(127, 0, 0, 0, 0);
        y.cart(0, 0, 0, 0, 0);
        for (int i = 1; i <= 100; i++) {
            yes("snow " + i, y.snow(i % 2, i));
        }
        no("the 101st", y.snow(0, 200));
        due("hundred", 100, y.count(5));
        due("not told", 1, y.runs(0, 200));
    }

    private static void p6Runs() {
        doc("`int runs(int cart, int day)`: Whether a CART has a RUN on a DAY (0 .. 300) (1, 0). NONE: no such ones.");
        CarrierNet x = new CarrierNet();
        line(x, terms(1 | 64, 1, 5, 1), 0, 1, 10);
        due("no cart", NONE, x.runs(1, 0));
        due("no cart", NONE, x.runs(-1, 0));
        due("day -1", NONE, x.runs(0, -1));
        due("day 301", NONE, x.runs(0, 301));
        int[] week = {1, 0, 0, 0, 0, 0, 1};
        for (int day = 0; day <= 300; day++) {
            due("runs on " + day, week[day % 7], x.runs(0, day));
        }
    }

    private static void p7Soon() {
        doc("`int soon(int from, int hour, int to)`: SOON from a PLACE at an HOUR (0 .. 6,000). NONE: none, no such "
            + "ones.");
        CarrierNet x = new CarrierNet();
        line(x, terms(127, 8, 5, 1), 0, 1, 2, 2, 5);
        line(x, terms(127, 10, 5, 1), 1, 3, 1);
        due("change at the same hour", 11, x.soon(0, 8, 3));
        due("get on on the way", 13, x.soon(1, 10, 2));
        due("not back", NONE, x.soon(2, 0, 0));
        due("missed", 35, x.soon(0, 9, 3));
        due("hour 6000", 6011, x.soon(0, 6000, 3));
        due("hour 6001", NONE, x.soon(0, 6001, 3));
        due("hour -1", NONE, x.soon(0, -1, 3));
        due("hour 6001, same place", NONE, x.soon(3, 6001, 3));
        due("no place", NONE, x.soon(12, 0, 3));
        due("no place", NONE, x.soon(0, 0, 12));
        due("no place", NONE, x.soon(-1, 0, -1));
        due("same place", 6000, x.soon(3, 6000, 3));

        CarrierNet y = new CarrierNet();
        line(y, terms(1, 0, 5, 1), 0, 1, 1);
        for (int day = 7; day <= 14; day += 7) {
            y.snow(0, day);
        }
        due("too far", NONE, y.soon(0, 1, 1));
        due("336 and 1", NONE, y.soon(0, 168, 1));
        due("336 exactly", 505, y.soon(0, 169, 1));

        CarrierNet z = new CarrierNet();
        line(z, terms(1, 23, 5, 1), 0, 1, 60);
        line(z, terms(127, 0, 5, 1), 2, 3, 1, 2, 24, 4, 50);
        due("a run of days ago", 83, z.soon(0, 23, 1));
        due("the run of the day before", 50, z.soon(2, 24, 4));
        due("missed, the next day's", 74, z.soon(2, 25, 4));
        due("no run of a day ahead of day 0", 50, z.soon(2, 0, 4));
        due("back at the first place", 48, z.soon(3, 25, 2));
    }

    private static void p8Reach() {
        doc("`int reach(int from, int hour, int by)`: The PLACES that one can be at by an HOUR, from a PLACE at an "
            + "HOUR on (0 .. 6,000 both; 336 behind at most), as bits. NONE: no such ones, the last ahead of the "
            + "first.");
        CarrierNet x = new CarrierNet();
        line(x, terms(127, 8, 5, 1), 0, 1, 2, 2, 5);
        line(x, terms(1, 9, 5, 1), 11, 0, 1);
        due("itself", 1, x.reach(0, 0, 0));
        due("ahead of it", 1, x.reach(0, 0, 9));
        due("by 10", 3, x.reach(0, 0, 10));
        due("by 336", 7, x.reach(0, 0, 336));
        due("by 337", NONE, x.reach(0, 0, 337));
        due("from 11", 1 << 11 | 7, x.reach(11, 0, 37));
        due("from 11, shorter", 1 << 11 | 3, x.reach(11, 0, 36));
        due("ahead", NONE, x.reach(0, 5, 4));
        due("6000", 1, x.reach(0, 6000, 6000));
        due("by 6001", NONE, x.reach(0, 5990, 6001));
        due("6001", NONE, x.reach(0, 6001, 6001));
        due("-1", NONE, x.reach(0, -1, 5));
        due("-1", NONE, x.reach(0, 0, -1));
        due("no place", NONE, x.reach(12, 0, 5));
        due("no place", NONE, x.reach(-1, 0, 5));
        due("wild", NONE, x.reach(0, 0, HIGH));
        due("wild", NONE, x.reach(0, LOW, HIGH));
    }

    private static void p9Cut() {
        doc("`int cut(int cart, int hour, int to)`: PLACES from which one can be at a PLACE, from an HOUR on, but "
            + "could not without a CART, as bits. NONE: no such ones.");
        CarrierNet x = new CarrierNet();
        line(x, terms(127, 8, 5, 1), 0, 1, 2, 2, 5);
        line(x, terms(2, 3, 5, 1), 0, 2, 1);
        line(x, terms(4, 3, 5, 1), 3, 0, 1);
        due("0 has another way", 2, x.cut(0, 0, 2));
        due("0 and 3 need it for 1", 1 | 8, x.cut(0, 0, 1));
        due("nobody needs it", 0, x.cut(1, 0, 2));
        due("3 needs it", 8, x.cut(2, 0, 2));
        due("there already", 0, x.cut(0, 0, 0) & 1);
        due("no cart", NONE, x.cut(3, 0, 2));
        due("no cart", NONE, x.cut(-1, 0, 2));
        due("hour", NONE, x.cut(0, -1, 2));
        due("hour", NONE, x.cut(0, 6001, 2));
        due("hour 6000", 2, x.cut(0, 6000, 2));
        due("no place", NONE, x.cut(0, 0, 12));
        due("no place", NONE, x.cut(0, 0, -1));

        CarrierNet y = new CarrierNet();
        line(y, terms(1, 0, 5, 1), 0, 1, 1);
        line(y, terms(1, 0, 5, 1), 0, 1, 2);
        y.snow(0, 7);
        y.snow(0, 14);
        y.snow(1, 7);
        y.snow(1, 14);
        due("both in time", 0, y.cut(0, 170, 1));
        due("the other one an hour late", 1, y.cut(0, 169, 1));
        due("none in time", 0, y.cut(0, 168, 1));

        CarrierNet z = new CarrierNet();
        line(z, terms(1, 0, 5, 1), 0, 1, 1);
        z.snow(0, 7);
        due("the run of this very hour", 1, z.cut(0, 0, 1));
        due("the one in two weeks", 1, z.cut(0, 1, 1));
        z.snow(0, 14);
        due("the run of this very hour alone", 1, z.cut(0, 0, 1));
        due("missed", 0, z.cut(0, 1, 1));
    }

    private static void p10Parcel() {
        doc("`int parcel(int from, int to, int size)`: A PARCEL: its number. NONE: no such PLACES, alike, size; "
            + "there are 60.");
        CarrierNet x = new CarrierNet();
        due("alike", NONE, x.parcel(0, 0, 1));
        due("no place", NONE, x.parcel(12, 0, 1));
        due("no place", NONE, x.parcel(-1, 0, 1));
        due("no place", NONE, x.parcel(0, 12, 1));
        due("no place", NONE, x.parcel(0, -1, 1));
        due("size 0", NONE, x.parcel(0, 1, 0));
        due("size 21", NONE, x.parcel(0, 1, 21));
        for (int i = 0; i < 60; i++) {
            due("parcel", i, x.parcel(i % 12, (i + 1) % 12, 1 + i % 20));
        }
        due("the 61st", NONE, x.parcel(0, 1, 1));
        due("sixty", 60, x.count(2));
        due("where to", 0, told(x, 59, 0));
        due("size", 20, told(x, 59, 1));
    }

    private static void p11Tick() {
        doc("`int tick(int n)`: n HOURS (0 .. 500): NOW. NONE: n, NOW would be above 5,000.");
        CarrierNet x = new CarrierNet();
        due("-1", NONE, x.tick(-1));
        due("501", NONE, x.tick(501));
        due("none", 0, x.tick(0));
        for (int i = 1; i <= 9; i++) {
            due("500", 500 * i, x.tick(500));
        }
        due("499", 4999, x.tick(499));
        due("beyond", NONE, x.tick(2));
        due("unchanged", 4999, x.count(0));
        due("5000", 5000, x.tick(1));
        due("beyond", NONE, x.tick(1));
        due("stays", 5000, x.tick(0));
        due("wild", NONE, x.tick(HIGH));
        due("wild", NONE, x.tick(LOW));
    }

    private static void ridesBySoonest() {
        CarrierNet x = new CarrierNet();
        line(x, terms(127, 0, 9, 1), 0, 1, 3);
        x.parcel(0, 1, 1);
        state(x, 0, 0, NONE, NONE, NONE, NONE, 0);
        x.tick(23);
        state(x, 0, 0, NONE, NONE, NONE, NONE, 0);
        x.tick(1);
        state(x, 0, NONE, 0, 1, 27, NONE, 1);
        x.parcel(0, 1, 1);
        x.tick(3);
        state(x, 0, 1, NONE, NONE, NONE, 27, 1);
        state(x, 1, 0, NONE, NONE, NONE, NONE, 0);
    }

    private static void ridesWhereThereIsRoom() {
        CarrierNet x = new CarrierNet();
        line(x, terms(127, 1, 5, 2), 0, 1, 4);
        line(x, terms(127, 1, 50, 3), 0, 2, 1, 1, 3);
        x.parcel(0, 1, 3);
        x.parcel(0, 1, 3);
        x.parcel(0, 2, 20);
        x.tick(1);
        state(x, 0, NONE, 1, 0, 4, NONE, 1);
        state(x, 1, NONE, 1, 0, 4, NONE, 1);
        state(x, 2, NONE, 1, 0, 2, NONE, 1);
        due("room of 1", 24, x.room(1, 0));
        due("room of 0", 5, x.room(0, 0));

        CarrierNet y = new CarrierNet();
        line(y, terms(127, 1, 5, 2), 0, 1, 3);
        y.parcel(0, 1, 3);
        y.parcel(0, 1, 3);
        y.parcel(0, 1, 2);
        y.tick(1);
        state(y, 0, NONE, 0, 0, 4, NONE, 1);
        state(y, 1, 0, NONE, NONE, NONE, NONE, 0);
        state(y, 2, NONE, 0, 0, 4, NONE, 1);
        y.tick(24);
        state(y, 1, NONE, 0, 1, 28, NONE, 1);

        // The way of the soonest hour does not look at room: too big a parcel waits for ever.
        CarrierNet z = new CarrierNet();
        line(z, terms(127, 1, 5, 2), 0, 1, 3);
        line(z, terms(127, 1, 50, 2), 0, 1, 4);
        z.parcel(0, 1, 6);
        z.tick(500);
        state(z, 0, 0, NONE, NONE, NONE, NONE, 0);
    }

    private static void ridesToTheLastStopInTime() {
        // Cart 1 takes it from place 1 or 2 to 3 by the same hour; it leaves cart 0 at the last of them.
        CarrierNet x = new CarrierNet();
        line(x, terms(127, 1, 9, 1), 0, 1, 1, 2, 2, 5, 9);
        line(x, terms(127, 2, 9, 1), 1, 2, 2, 3, 4);
        x.parcel(0, 3, 2);
        x.tick(1);
        state(x, 0, NONE, 0, 0, 3, NONE, 1);
        x.tick(2);
        state(x, 0, 2, NONE, NONE, NONE, NONE, 1);
        x.tick(1);
        state(x, 0, NONE, 1, 0, 6, NONE, 2);
        x.tick(2);
        state(x, 0, 3, NONE, NONE, NONE, 6, 2);
        due("fares 0", 2, x.fares(0));
        due("fares 1", 2, x.fares(1));

        // It goes on in the very hour in which it came to the inn.
        CarrierNet y = new CarrierNet();
        line(y, terms(127, 1, 9, 1), 0, 1, 1);
        line(y, terms(127, 2, 9, 1), 1, 2, 1);
        y.parcel(0, 2, 2);
        y.tick(2);
        state(y, 0, NONE, 1, 0, 3, NONE, 2);

        // A round trip that is back in time counts as a ride too.
        CarrierNet z = new CarrierNet();
        line(z, terms(127, 1, 9, 1), 0, 5, 1, 0, 2);
        line(z, terms(127, 3, 9, 1), 0, 1, 1);
        z.parcel(0, 1, 2);
        z.tick(1);
        state(z, 0, NONE, 0, 0, 3, NONE, 1);
        z.tick(2);
        state(z, 0, NONE, 1, 0, 4, NONE, 2);
    }

    private static void ridesByCartsThenDays() {
        CarrierNet x = new CarrierNet();
        line(x, terms(127, 1, 2, 1), 0, 1, 4);
        line(x, terms(127, 1, 9, 1), 0, 1, 4);
        x.parcel(0, 1, 1);
        x.parcel(0, 1, 2);
        x.tick(1);
        state(x, 0, NONE, 0, 0, 5, NONE, 1);
        state(x, 1, NONE, 1, 0, 5, NONE, 1);

        // Two runs of one cart stand at place 0 at hour 24: that of day 0, then that of day 1;
        // both bring to place 2 whence cart 1 goes on at hour 60.
        CarrierNet y = new CarrierNet();
        line(y, terms(127, 0, 9, 1), 0, 2, 1, 0, 24, 2, 25);
        line(y, terms(4, 12, 9, 1), 2, 3, 1);
        y.parcel(0, 3, 6);
        y.parcel(0, 3, 6);
        y.tick(24);
        state(y, 0, NONE, 0, 0, 25, NONE, 1);
        state(y, 1, NONE, 0, 1, 49, NONE, 1);
    }

    private static void waitsForTheSoonest() {
        // Cart 0 goes first but slowly; cart 1 comes sooner.
        CarrierNet x = new CarrierNet();
        line(x, terms(127, 1, 9, 1), 0, 1, 20);
        line(x, terms(127, 5, 9, 1), 0, 1, 2);
        x.parcel(0, 1, 1);
        x.tick(4);
        state(x, 0, 0, NONE, NONE, NONE, NONE, 0);
        x.tick(1);
        state(x, 0, NONE, 1, 0, 7, NONE, 1);

        // No way there: it waits though carts go from there.
        CarrierNet y = new CarrierNet();
        line(y, terms(127, 1, 9, 1), 0, 1, 20);
        y.parcel(0, 2, 1);
        y.tick(100);
        state(y, 0, 0, NONE, NONE, NONE, NONE, 0);
        due("waits", 1, y.waiting(0));
    }

    private static void plansAnew() {
        // Snow on the day of the cart it was led to: at place 1 it finds the other one.
        CarrierNet x = new CarrierNet();
        line(x, terms(127, 20, 9, 1), 0, 1, 1, 4, 6);
        line(x, terms(127, 1, 9, 1), 1, 3, 1);
        line(x, terms(127, 3, 9, 1), 1, 3, 9);
        x.parcel(0, 3, 1);
        x.tick(20);
        state(x, 0, NONE, 0, 0, 21, NONE, 1);
        yes("snow", x.snow(1, 1));
        x.tick(5);
        state(x, 0, 1, NONE, NONE, NONE, NONE, 1);
        x.tick(2);
        state(x, 0, NONE, 2, 1, 36, NONE, 2);
        plansAnewAheadOfTheLatestHour(0);
        plansAnewAheadOfTheLatestHour(1);
        plansAnewAheadOfTheLatestHour(2);
    }

    /**
     * Cart 0 would be the soonest at hour 29; cart 2 that passes at hour 1 makes it look for its way.
     * Then cart 0 is lost by snow (0) or by a change (1), or cart 1 becomes the sooner one by a new stop (2).
     */
    private static void plansAnewAheadOfTheLatestHour(int how) {
        CarrierNet x = new CarrierNet();
        line(x, terms(2, 5, 9, 1), 0, 1, 4);
        line(x, terms(2, 3, 9, 1), 0, how == 2 ? 7 : 1, how == 2 ? 1 : 9);
        line(x, terms(127, 1, 9, 1), 0, 5, 1);
        x.parcel(0, 1, 1);
        x.tick(2);
        state(x, 0, 0, NONE, NONE, NONE, NONE, 0);
        if (how == 0) {
            yes("snow", x.snow(0, 1));
        } else if (how == 1) {
            yes("change", x.change(0, 4, 9, 1));
        } else {
            due("stop", 3, x.stop(1, 1, 3));
        }
        x.tick(24);
        state(x, 0, 0, NONE, NONE, NONE, NONE, 0);
        x.tick(1);
        state(x, 0, NONE, 1, 1, how == 2 ? 30 : 36, NONE, 1);
    }

    private static void p12Told() {
        doc("`int told(int parcel, int what) throws NoSuchElementException`: Of a PARCEL: 0 where it goes, 1 size, 2 "
            + "the PLACE it is at (NONE: on a RUN), 3 the CART it is on (NONE), 4 the DAY of that RUN (NONE), 5 the "
            + "HOUR at which it leaves it (NONE), 6 the HOUR at which it has come (NONE), 7 RIDES that it began. "
            + "NoSuchElementException: no such PARCEL, what.");
        CarrierNet x = new CarrierNet();
        line(x, terms(127, 1, 9, 1), 0, 1, 4);
        due("none yet", THROWN, told(x, 0, 0));
        x.parcel(0, 1, 7);
        due("where to", 1, told(x, 0, 0));
        due("size", 7, told(x, 0, 1));
        state(x, 0, 0, NONE, NONE, NONE, NONE, 0);
        x.tick(1);
        due("where to", 1, told(x, 0, 0));
        due("size", 7, told(x, 0, 1));
        state(x, 0, NONE, 0, 0, 5, NONE, 1);
        x.tick(4);
        state(x, 0, 1, NONE, NONE, NONE, 5, 1);
        x.tick(100);
        state(x, 0, 1, NONE, NONE, NONE, 5, 1);
        due("what 8", THROWN, told(x, 0, 8));
        due("what -1", THROWN, told(x, 0, -1));
        due("parcel 1", THROWN, told(x, 1, 0));
        due("parcel -1", THROWN, told(x, -1, 0));
        due("wild", THROWN, told(x, HIGH, LOW));
    }

    private static void p13Waiting() {
        doc("`int waiting(int place)`: How many PARCELS are at a PLACE's inn that have not come. NONE: no such one.");
        CarrierNet x = new CarrierNet();
        line(x, terms(127, 1, 9, 1), 0, 1, 4);
        x.parcel(0, 1, 7);
        x.parcel(0, 1, 7);
        x.parcel(11, 0, 7);
        due("at 0", 2, x.waiting(0));
        due("at 11", 1, x.waiting(11));
        due("at 1", 0, x.waiting(1));
        x.tick(1);
        due("at 0, one rides", 1, x.waiting(0));
        x.tick(4);
        due("at 1, come", 0, x.waiting(1));
        due("no place", NONE, x.waiting(12));
        due("no place", NONE, x.waiting(-1));
    }

    private static void p14Fares() {
        doc("`int fares(int cart)`: FARES of a CART. NONE: no such one.");
        CarrierNet x = new CarrierNet();
        line(x, terms(127, 1, 9, 20), 0, 1, 4);
        x.parcel(0, 1, 9);
        x.parcel(0, 1, 5);
        due("nothing", 0, x.fares(0));
        x.tick(4);
        due("as it leaves", 0, x.fares(0));
        x.tick(1);
        due("left", 180, x.fares(0));
        yes("change", x.change(0, 127, 9, 1));
        due("stays", 180, x.fares(0));
        x.tick(24);
        due("the second by the new fare", 185, x.fares(0));
        due("in all", 185, x.count(6));
        due("no cart", NONE, x.fares(1));
        due("no cart", NONE, x.fares(-1));
    }

    private static void p15Room() {
        doc("`int room(int cart, int day)`: ROOM left of a CART's RUN of a DAY, NOW. NONE: no such RUN.");
        CarrierNet x = new CarrierNet();
        line(x, terms(1 | 2 | 16, 1, 9, 1), 0, 1, 40);
        x.parcel(0, 1, 4);
        x.parcel(0, 1, 5);
        x.parcel(0, 1, 6);
        x.tick(1);
        due("full", 0, x.room(0, 0));
        due("next day's", 9, x.room(0, 1));
        due("no run", NONE, x.room(0, 2));
        x.tick(24);
        due("both under way", 0, x.room(0, 0));
        due("both under way", 3, x.room(0, 1));
        due("day 4's is another", 9, x.room(0, 4));
        x.tick(16);
        due("day 0's is over", 9, x.room(0, 0));
        due("day 1's is not", 3, x.room(0, 1));
        x.snow(0, 4);
        due("snow", NONE, x.room(0, 4));
        due("no cart", NONE, x.room(1, 0));
        due("no cart", NONE, x.room(-1, 0));
        due("no day", NONE, x.room(0, -1));
        due("no day", NONE, x.room(0, LOW));
    }

    private static void p16Walk() {
        doc("`boolean walk(int one, int other, int minutes)`: WALK. False: no such SHOPS, alike, out of bounds.");
        CarrierNet x = new CarrierNet();
        x.errand(1, 0, 1);
        due("10 at first", 20, x.best(100, 1));
        yes("walk", x.walk(0, 1, 3));
        due("either way", 6, x.best(100, 1));
        yes("walk", x.walk(1, 0, 60));
        due("either way", 120, x.best(120, 1));
        yes("walk", x.walk(8, 7, 0));
        no("alike", x.walk(1, 1, 5));
        no("61", x.walk(0, 1, 61));
        no("-1", x.walk(0, 1, -1));
        no("shop 9", x.walk(0, 9, 1));
        no("shop 9", x.walk(9, 0, 1));
        no("shop -1", x.walk(-1, 0, 1));
        no("shop -1", x.walk(0, -1, 1));
        due("unchanged", 120, x.best(120, 1));
    }

    private static void p17Errand() {
        doc("`boolean errand(int shop, int minutes, int worth)`: A SHOP (1 .. 8) of the list, told again: that. "
            + "False: out of bounds.");
        CarrierNet x = new CarrierNet();
        no("inn", x.errand(0, 1, 1));
        no("shop 9", x.errand(9, 1, 1));
        no("minutes", x.errand(1, -1, 1));
        no("minutes", x.errand(1, 61, 1));
        no("worth", x.errand(1, 1, -1));
        no("worth", x.errand(1, 1, 101));
        due("none", 0, x.count(7));
        yes("errand", x.errand(8, 60, 100));
        yes("errand", x.errand(1, 0, 0));
        due("two", 2, x.count(7));
        due("worth", 100, x.best(80, 0));
        yes("told again", x.errand(8, 5, 7));
        due("two", 2, x.count(7));
        due("worth", 7, x.best(80, 0));
        due("minutes", 25, x.best(80, 1));
    }

    private static void p18Clear() {
        doc("`void clear()`: The list is empty.");
        CarrierNet x = new CarrierNet();
        x.clear();
        x.errand(1, 5, 5);
        x.walk(0, 1, 2);
        due("before", 5, x.best(500, 0));
        x.clear();
        due("worth", 0, x.best(500, 0));
        due("minutes", 0, x.best(500, 1));
        due("shops", 0, x.best(500, 2));
        due("round", NONE, x.round(500, 0));
        due("list", 0, x.count(7));
        x.errand(1, 5, 6);
        due("walks stay", 9, x.best(500, 1));
    }

    private static void p19Best() {
        doc("`int best(int within, int what)`: BEST: what 0 WORTH, 1 minutes, 2 how many SHOPS. NONE: out of bounds, "
            + "what.");
        CarrierNet x = new CarrierNet();
        x.errand(1, 5, 10);
        x.errand(2, 5, 10);
        x.errand(3, 30, 3);
        due("within 0", 0, x.best(0, 0));
        due("24", 0, x.best(24, 2));
        due("25", 10, x.best(25, 0));
        due("39", 10, x.best(39, 0));
        due("40", 20, x.best(40, 0));
        due("40", 40, x.best(40, 1));
        due("40", 2, x.best(40, 2));
        due("79", 20, x.best(79, 0));
        due("500", 23, x.best(500, 0));
        due("500", 80, x.best(500, 1));
        due("500", 3, x.best(500, 2));
        due("-1", NONE, x.best(-1, 0));
        due("501", NONE, x.best(501, 0));
        due("what", NONE, x.best(5, 3));
        due("what", NONE, x.best(5, -1));

        // A shop of no worth on the way may save minutes: walks are as told, not the shortest ways.
        CarrierNet y = new CarrierNet();
        y.errand(1, 0, 5);
        y.walk(0, 1, 60);
        due("straight", 120, y.best(500, 1));
        y.errand(2, 0, 0);
        due("by way of 2", 80, y.best(500, 1));
        y.errand(3, 0, 0);
        due("there by 2, back by 3", 40, y.best(500, 1));
    }

    private static void p20Round() {
        doc("`int round(int within, int i)`: SHOP i of it (from 0 on). NONE without, out of bounds.");
        CarrierNet x = new CarrierNet();
        x.errand(1, 5, 10);
        x.errand(2, 5, 10);
        x.walk(0, 2, 1);
        due("25", 2, x.round(25, 0));
        due("over", NONE, x.round(25, 1));
        due("31", 1, x.round(31, 0));
        due("31", 2, x.round(31, 1));
        due("over", NONE, x.round(31, 2));
        due("-1", NONE, x.round(31, -1));
        due("8", NONE, x.round(31, 8));
        due("wild", NONE, x.round(31, HIGH));
        due("out", NONE, x.round(501, 0));
        due("out", NONE, x.round(-1, 0));
        due("nothing", NONE, x.round(0, 0));

        // All for nothing: one that is over is ahead of one that goes on, a lower shop of a higher.
        CarrierNet y = new CarrierNet();
        for (int one = 0; one <= 8; one++) {
            for (int other = 0; other < one; other++) {
                y.walk(one, other, 0);
            }
        }
        y.errand(3, 0, 0);
        due("over at once", NONE, y.round(500, 0));
        y.errand(5, 0, 9);
        due("3 is ahead of 5", 3, y.round(500, 0));
        due("then 5", 5, y.round(500, 1));
        y.errand(7, 0, 0);
        due("over ahead of 7", NONE, y.round(500, 2));
        for (int shop = 1; shop <= 8; shop++) {
            y.errand(shop, 0, 1);
        }
        for (int i = 0; i < 8; i++) {
            due("all in order", i + 1, y.round(0, i));
        }
        due("eight", 8, y.best(0, 2));
    }

    private static void p21Count() {
        doc("`int count(int what)`: 0 NOW, 1 CARTS, 2 PARCELS, 3 that have come, 4 on RUNS, 5 days of SNOW told, 6 "
            + "FARES in all, 7 SHOPS of the list. NONE for others.");
        CarrierNet x = new CarrierNet();
        line(x, terms(127, 1, 9, 2), 0, 1, 4);
        line(x, terms(127, 1, 9, 3), 1, 2, 40);
        x.parcel(0, 1, 2);
        x.parcel(1, 2, 3);
        x.parcel(2, 1, 3);
        x.snow(0, 3);
        x.errand(4, 4, 4);
        x.tick(5);
        int[] want = {5, 2, 3, 1, 1, 1, 4, 1};
        for (int what = 0; what < 8; what++) {
            due("count " + what, want[what], x.count(what));
        }
        x.tick(36);
        due("come", 2, x.count(3));
        due("on runs", 0, x.count(4));
        due("fares in all", 4 + 9, x.count(6));
        due("8", NONE, x.count(8));
        due("-1", NONE, x.count(-1));
        due("wild", NONE, x.count(LOW));
    }

    public static void main(String[] args) throws ReflectiveOperationException {
        all(PromiseTest.class);
    }
}
