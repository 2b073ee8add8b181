/** Boundary sentences of promises 1 to 6, 14 and 15 and of the terms behind them, one test each. */
public final class CartBoundaryTest extends Checks {
    private static final int FALSE = 0;

    // ---- promise 1 ----

    private static void aNewObjectHasNothing() {
        doc("NOW 0, no CARTS.");
        for (int what = 0; what < 8; what++) {
            due("count " + what, 0, new CarrierNet().count(what));
        }
        Story nothing = x -> { };
        refused("no cart", NONE, nothing, "stop", 0, 1, 1);
        refused("no cart", FALSE, nothing, "change", 0, 1, 1, 1);
        refused("no cart", FALSE, nothing, "snow", 0, 1);
        refused("no cart", NONE, nothing, "runs", 0, 0);
        refused("no cart", NONE, nothing, "cut", 0, 0, 0);
        refused("no cart", NONE, nothing, "fares", 0);
        refused("no cart", NONE, nothing, "room", 0, 0);
        refused("no parcel", THROWN, nothing, "told", 0, 0);
        for (int place = 0; place < 12; place++) {
            due("nobody waits", 0, new CarrierNet().waiting(place));
            due("one is where one is", 1 << place, new CarrierNet().reach(place, 0, 336));
        }
        due("the first cart", 0, new CarrierNet().cart(0, 0, 0, 0, 0));
        due("the first parcel", 0, new CarrierNet().parcel(0, 1, 1));
    }

    private static void objectsAreApart() {
        doc("NOW 0, no CARTS.");
        CarrierNet x = after(CartBoundaryTest::twelveCarts);
        x.tick(7);
        x.walk(0, 1, 3);
        x.errand(1, 1, 1);
        CarrierNet y = new CarrierNet();
        for (int what = 0; what < 8; what++) {
            due("count " + what, 0, y.count(what));
        }
        y.errand(1, 0, 1);
        due("first walks", 20, y.best(500, 1));
        due("first cart", 0, y.cart(1, 1, 1, 1, 1));
    }

    // ---- promise 2 ----

    private static void twelveCarts(CarrierNet x) {
        for (int i = 0; i < 12; i++) {
            due("its number", i, x.cart(EVERY_DAY, i, i, i, i));
        }
    }

    private static void aThirteenthCartIsRefused() {
        doc("CARTS (12 at most)");
        refused("there are twelve", NONE, CartBoundaryTest::twelveCarts, "cart", 1, 1, 1, 1, 1);
        due("twelve", 12, after(CartBoundaryTest::twelveCarts).count(1));
        Story eleven = x -> {
            for (int i = 0; i < 11; i++) {
                x.cart(1, 1, 1, 1, 1);
            }
        };
        due("the twelfth", 11, after(eleven).cart(0, 0, 0, 0, 0));
    }

    private static void theTwelfthCartIsOneLikeOthers() {
        doc("A CART with a first STOP: its number.");
        CarrierNet x = after(CartBoundaryTest::twelveCarts);
        due("stop", 2, x.stop(11, 0, 1));
        due("soon", 12, x.soon(11, 0, 0));
        due("cut", 1 << 11, x.cut(11, 0, 0));
        due("room", 11, x.room(11, 0));
        x.parcel(11, 0, 2);
        x.tick(12);
        due("fares", 22, x.fares(11));
        yes("snow", x.snow(11, 1));
        due("runs", 0, x.runs(11, 1));
        yes("change", x.change(11, 0, 0, 0));
    }

    private static void weekdaysAreBits0To6() {
        doc("weekdays (bits 0 .. 6)");
        for (int bit = 0; bit < 7; bit++) {
            CarrierNet x = new CarrierNet();
            x.cart(1 << bit, 0, 0, 0, 0);
            for (int day = 0; day < 14; day++) {
                due("bit " + bit + " on day " + day, day % 7 == bit ? 1 : 0, x.runs(0, day));
            }
        }
    }

    private static void noWeekdayAndEveryWeekday() {
        doc("weekdays (bits 0 .. 6)");
        CarrierNet x = new CarrierNet();
        line(x, terms(0, 0, 5, 1), 0, 1, 1);
        line(x, terms(EVERY_DAY, 0, 5, 1), 2, 3, 1);
        for (int day = 0; day < 8; day++) {
            due("never", 0, x.runs(0, day));
            due("never", NONE, x.room(0, day));
            due("always", 1, x.runs(1, day));
            due("always", 24 * day + 1, x.soon(2, 24 * day, 3));
        }
        due("never", NONE, x.soon(0, 0, 1));
    }

    private static void hours0And23() {
        doc("an HOUR (0 .. 23)");
        CarrierNet x = new CarrierNet();
        line(x, terms(EVERY_DAY, 0, 5, 1), 0, 1, 1);
        line(x, terms(EVERY_DAY, 23, 5, 1), 2, 3, 1);
        due("at 0", 1, x.soon(0, 0, 1));
        due("at 24", 25, x.soon(0, 1, 1));
        due("at 23", 24, x.soon(2, 23, 3));
        due("at 47", 48, x.soon(2, 24, 3));
    }

    private static void room0And50() {
        doc("ROOM (0 .. 50)");
        CarrierNet x = new CarrierNet();
        line(x, terms(EVERY_DAY, 1, 0, 1), 0, 1, 5);
        line(x, terms(EVERY_DAY, 1, 50, 1), 2, 3, 5);
        x.parcel(0, 1, 1);
        x.parcel(2, 3, 20);
        x.parcel(2, 3, 20);
        x.parcel(2, 3, 11);
        x.parcel(2, 3, 10);
        x.parcel(2, 3, 1);
        due("none", 0, x.room(0, 0));
        due("fifty", 50, x.room(1, 0));
        x.tick(1);
        waits(x, 0, 0, 0);
        waits(x, 3, 2, 0);
        waits(x, 5, 2, 0);
        state(x, 4, NONE, 1, 0, 6, NONE, 1);
        due("full", 0, x.room(1, 0));
    }

    private static void fare0And20() {
        doc("FARE (0 .. 20)");
        CarrierNet x = new CarrierNet();
        line(x, terms(EVERY_DAY, 1, 50, 0), 0, 1, 5);
        line(x, terms(EVERY_DAY, 1, 50, 20), 2, 3, 5);
        x.parcel(0, 1, 20);
        x.parcel(2, 3, 20);
        x.tick(6);
        due("for nothing", 0, x.fares(0));
        due("the dearest", 400, x.fares(1));
        due("in all", 400, x.count(6));
    }

    private static void places0And11() {
        doc("PLACES 0 .. 11.");
        CarrierNet x = new CarrierNet();
        line(x, terms(EVERY_DAY, 1, 5, 1), 0, 11, 1);
        line(x, terms(EVERY_DAY, 3, 5, 1), 11, 0, 1);
        due("to 11", 2, x.soon(0, 0, 11));
        due("to 0", 4, x.soon(11, 0, 0));
        due("both", 1 | 1 << 11, x.reach(0, 0, 4));
        due("cut off", 1 << 11, x.cut(1, 0, 0));
        x.parcel(0, 11, 1);
        x.parcel(11, 0, 1);
        due("waits", 1, x.waiting(11));
        x.tick(4);
        state(x, 0, 11, NONE, NONE, NONE, 2, 1);
        state(x, 1, 0, NONE, NONE, NONE, 4, 1);
    }

    // ---- promise 3 ----

    private static void theFirstOffsetIs0() {
        doc("(the first one's 0, each other one's more than that of the one ahead, 60 at most; PLACES may come again)");
        Story one = x -> x.cart(EVERY_DAY, 7, 5, 1, 0);
        refused("not more than 0", NONE, one, "stop", 0, 1, 0);
        refused("ahead of 0", NONE, one, "stop", 0, 1, -1);
        CarrierNet x = after(one);
        due("1 is more", 2, x.stop(0, 1, 1));
        due("the first at its hour", 8, x.soon(0, 7, 1));
    }

    private static void anOffsetIsMoreThanTheOneAhead() {
        doc("each other one's more than that of the one ahead");
        Story two = x -> line(x, terms(EVERY_DAY, 0, 5, 1), 0, 1, 30);
        refused("alike", NONE, two, "stop", 0, 2, 30);
        refused("ahead", NONE, two, "stop", 0, 2, 29);
        refused("as the first", NONE, two, "stop", 0, 2, 0);
        CarrierNet x = after(two);
        due("one more", 3, x.stop(0, 2, 31));
        due("an hour behind", 31, x.soon(1, 30, 2));
    }

    private static void anOffsetIs60AtMost() {
        doc("60 at most");
        Story one = x -> x.cart(EVERY_DAY, 23, 5, 1, 0);
        refused("61", NONE, one, "stop", 0, 1, 61);
        CarrierNet x = after(one);
        due("60", 2, x.stop(0, 1, 60));
        due("on the day behind the day behind the next", 83, x.soon(0, 0, 1));
        Story ended = y -> line(y, terms(EVERY_DAY, 23, 5, 1), 0, 1, 60);
        refused("60 again", NONE, ended, "stop", 0, 2, 60);
        refused("61 behind 60", NONE, ended, "stop", 0, 2, 61);
    }

    private static void placesMayComeAgain() {
        doc("PLACES may come again");
        CarrierNet x = new CarrierNet();
        x.cart(EVERY_DAY, 0, 5, 1, 0);
        for (int i = 1; i < 6; i++) {
            due("the same place", i + 1, x.stop(0, 0, i));
        }
        due("the same place", 3, x.soon(0, 3, 0));
        due("nowhere else", 1, x.reach(0, 0, 336));
        CarrierNet y = new CarrierNet();
        line(y, terms(EVERY_DAY, 0, 5, 1), 0, 1, 1, 0, 2, 1, 3);
        due("at its first time", 1, y.soon(0, 0, 1));
        due("at its second", 3, y.soon(0, 1, 1));
        due("at its third, a day later", 25, y.soon(0, 3, 1));
    }

    private static void aCartHasSixStopsAtMost() {
        doc("STOPS (2 to 6)");
        Story six = x -> line(x, terms(EVERY_DAY, 0, 5, 1), 0, 1, 1, 2, 2, 3, 3, 4, 4, 5, 5);
        refused("it has six", NONE, six, "stop", 0, 6, 6);
        CarrierNet x = after(six);
        due("to the sixth", 5, x.soon(0, 0, 5));
        due("from the fifth", 5, x.soon(4, 0, 5));
        due("another cart's second", NONE, x.stop(1, 6, 6));
        x.cart(EVERY_DAY, 0, 5, 1, 5);
        due("another cart's second", 2, x.stop(1, 6, 6));
    }

    private static void aCartOfOneStopBringsNowhere() {
        doc("from a STOP of a RUN to a later one of it");
        CarrierNet x = new CarrierNet();
        x.cart(EVERY_DAY, 0, 5, 1, 0);
        due("nowhere", 1, x.reach(0, 0, 336));
        due("cuts nobody off", 0, x.cut(0, 0, 0));
        x.parcel(0, 1, 1);
        x.tick(100);
        waits(x, 0, 0, 0);
        due("a second stop", 2, x.stop(0, 1, 1));
        x.tick(20);
        state(x, 0, NONE, 0, 5, 121, NONE, 1);
    }

    private static void twoParcelsOnTwoRuns(CarrierNet x) {
        line(x, terms(EVERY_DAY, 1, 5, 1), 0, 1, 30);
        line(x, terms(EVERY_DAY, 1, 5, 1), 3, 4, 1);
        x.parcel(0, 1, 1);
        x.tick(1);
        x.parcel(0, 1, 1);
        x.tick(24);
    }

    private static void noStopWhileAParcelIsOnIt() {
        doc("it has six; a PARCEL is on it.");
        Story oneGot = x -> {
            line(x, terms(EVERY_DAY, 1, 5, 1), 0, 1, 30);
            x.parcel(0, 1, 1);
            x.tick(1);
        };
        refused("it has just got on", NONE, oneGot, "stop", 0, 2, 40);
        refused("two runs", NONE, CartBoundaryTest::twoParcelsOnTwoRuns, "stop", 0, 2, 40);
        CarrierNet x = after(CartBoundaryTest::twoParcelsOnTwoRuns);
        due("the other cart", 3, x.stop(1, 5, 2));
        x.tick(5);
        due("an hour ahead of the first one's leaving", NONE, x.stop(0, 2, 40));
        x.tick(1);
        due("the first one left", 1, x.count(3));
        due("the second is on it", NONE, x.stop(0, 2, 40));
        x.tick(23);
        due("an hour ahead of the second one's leaving", NONE, x.stop(0, 2, 40));
        x.tick(1);
        due("the second one left", 3, x.stop(0, 2, 40));
    }

    private static void aNewStopIsOnTheRunUnderWay() {
        doc("CARTS, their STOPS, can be told as long as no PARCEL is on a RUN of theirs.");
        CarrierNet x = new CarrierNet();
        line(x, terms(EVERY_DAY, 1, 5, 1), 0, 1, 10);
        x.parcel(1, 2, 1);
        x.tick(5);
        due("a parcel waits, none is on it", 3, x.stop(0, 2, 20));
        x.tick(6);
        state(x, 0, NONE, 0, 0, 21, NONE, 1);
    }

    // ---- promise 4 ----

    private static void noChangeWhileAParcelIsOnIt() {
        doc("False: no such one, out of bounds, a PARCEL is on it.");
        refused("two runs", FALSE, CartBoundaryTest::twoParcelsOnTwoRuns, "change", 0, 1, 2, 3);
        refused("to what it is", FALSE, CartBoundaryTest::twoParcelsOnTwoRuns, "change", 0, EVERY_DAY, 5, 1);
        CarrierNet x = after(CartBoundaryTest::twoParcelsOnTwoRuns);
        yes("the other cart", x.change(1, 1, 2, 3));
        x.tick(6);
        no("one left, one is on it", x.change(0, 1, 2, 3));
        x.tick(23);
        no("an hour ahead of its leaving", x.change(0, 1, 2, 3));
        x.tick(1);
        yes("it left", x.change(0, 1, 2, 3));
    }

    private static void changedToTheBounds() {
        doc("Weekdays, ROOM and FARE of a CART are others.");
        CarrierNet x = new CarrierNet();
        line(x, terms(1, 1, 5, 1), 0, 1, 5);
        yes("all", x.change(0, 127, 50, 20));
        due("runs", 1, x.runs(0, 6));
        due("room", 50, x.room(0, 6));
        x.parcel(0, 1, 20);
        x.tick(6);
        due("fare", 400, x.fares(0));
        yes("room 0", x.change(0, 127, 0, 20));
        due("room", 0, x.room(0, 1));
        x.parcel(0, 1, 1);
        x.tick(24);
        waits(x, 1, 0, 0);
        yes("fare 0", x.change(0, 127, 50, 0));
        x.tick(24);
        due("fare", 400, x.fares(0));
        due("come", 54, told(x, 1, 6));
        yes("no weekday", x.change(0, 0, 50, 20));
        due("runs", 0, x.runs(0, 6));
        due("room", NONE, x.room(0, 6));
    }

    private static void aChangeLeavesTheRest() {
        doc("Weekdays, ROOM and FARE of a CART are others.");
        CarrierNet x = new CarrierNet();
        line(x, terms(EVERY_DAY, 1, 5, 3), 0, 1, 5);
        x.parcel(0, 1, 2);
        x.tick(6);
        yes("snow", x.snow(0, 1));
        yes("change", x.change(0, EVERY_DAY, 6, 4));
        due("its fares", 6, x.fares(0));
        due("its snow", 0, x.runs(0, 1));
        due("its snow told", 1, x.count(5));
        due("its hour and stops", 54, x.soon(0, 6, 1));
        due("no other cart", 1, x.count(1));
        due("its third stop", 3, x.stop(0, 2, 6));
    }

    // ---- promise 5 ----

    private static void everyDayCart(CarrierNet x) {
        line(x, terms(EVERY_DAY, 20, 5, 1), 0, 1, 10);
        line(x, terms(EVERY_DAY, 20, 5, 1), 2, 3, 10);
    }

    private static Story everyDayCartAt(int hour) {
        return x -> {
            everyDayCart(x);
            for (int left = hour; left > 0; left -= 500) {
                x.tick(Math.min(left, 500));
            }
        };
    }

    private static void snowIsBehindTheDayOfNow() {
        doc("SNOW is told of a CART and a DAY behind that of NOW.");
        int[][] days = {{0, 0}, {23, 0}, {24, 1}, {47, 1}, {48, 2}, {4991, 207}, {4992, 208}, {5000, 208}};
        for (int[] d : days) {
            refused("today, at " + d[0], FALSE, everyDayCartAt(d[0]), "snow", 0, d[1]);
            refused("yesterday, at " + d[0], FALSE, everyDayCartAt(d[0]), "snow", 0, d[1] - 1);
            yes("tomorrow, at " + d[0], after(everyDayCartAt(d[0])).snow(0, d[1] + 1));
        }
    }

    private static void snowIsNotAbove300() {
        doc("above 300, told already; 100 were.");
        refused("301", FALSE, CartBoundaryTest::everyDayCart, "snow", 0, 301);
        CarrierNet x = after(CartBoundaryTest::everyDayCart);
        yes("300", x.snow(0, 300));
        due("no run on 300", 0, x.runs(0, 300));
        due("a run on 299", 1, x.runs(0, 299));
        due("none on 300", NONE, x.room(0, 300));
    }

    private static void snowIsToldOnceOfADay() {
        doc("above 300, told already; 100 were.");
        Story told = x -> {
            everyDayCart(x);
            x.snow(0, 5);
            x.snow(0, 300);
        };
        refused("told already", FALSE, told, "snow", 0, 5);
        refused("told already", FALSE, told, "snow", 0, 300);
        CarrierNet x = after(told);
        yes("the day ahead", x.snow(0, 4));
        yes("the day behind", x.snow(0, 6));
        yes("the other cart", x.snow(1, 5));
        due("told", 5, x.count(5));
    }

    private static void aHundredDays(CarrierNet x) {
        everyDayCart(x);
        for (int i = 1; i <= 50; i++) {
            yes("taken", x.snow(0, i));
            yes("taken", x.snow(1, 300 - i));
        }
    }

    private static void aHundredDaysOfSnow() {
        doc("above 300, told already; 100 were.");
        refused("100 were", FALSE, CartBoundaryTest::aHundredDays, "snow", 0, 51);
        refused("100 were", FALSE, CartBoundaryTest::aHundredDays, "snow", 1, 51);
        refused("100 were, told already", FALSE, CartBoundaryTest::aHundredDays, "snow", 0, 50);
        CarrierNet x = after(CartBoundaryTest::aHundredDays);
        due("told", 100, x.count(5));
        due("the hundredth counts", 0, x.runs(1, 250));
        due("a refused one does not", 1, x.runs(1, 51));
        x.cart(EVERY_DAY, 0, 0, 0, 0);
        no("a new cart has no days of its own", x.snow(2, 9));
    }

    private static void ninetyNineDaysLeaveOne() {
        doc("above 300, told already; 100 were.");
        CarrierNet x = new CarrierNet();
        x.cart(EVERY_DAY, 0, 0, 0, 0);
        for (int i = 1; i <= 99; i++) {
            x.snow(0, i);
            no("a refused one is not counted", x.snow(0, i));
        }
        yes("the hundredth", x.snow(0, 100));
        no("the next", x.snow(0, 101));
    }

    private static void snowOnADayThatIsNoneOfItsWeekdays() {
        doc("of its weekdays that is no day of SNOW for it");
        CarrierNet x = new CarrierNet();
        x.cart(1, 0, 0, 0, 0);
        yes("no run anyway", x.snow(0, 1));
        due("is told", 1, x.count(5));
        yes("change", x.change(0, EVERY_DAY, 0, 0));
        due("is snow still", 0, x.runs(0, 1));
        due("the next day", 1, x.runs(0, 2));
    }

    private static void snowStopsNoRunUnderWay() {
        doc("on each DAY d, 0 or later, of its weekdays that is no day of SNOW for it");
        CarrierNet x = after(CartBoundaryTest::everyDayCart);
        x.parcel(0, 1, 1);
        x.tick(20);
        yes("snow tomorrow", x.snow(0, 1));
        due("yesterday's run", 30, x.soon(0, 20, 1));
        due("no run tomorrow", 78, x.soon(0, 21, 1));
        due("the other cart's", 54, x.soon(2, 21, 3));
        due("its room", 4, x.room(0, 0));
        x.tick(10);
        due("come", 30, told(x, 0, 6));
    }

    private static void snowIsForOneDayAlone() {
        doc("on each DAY d, 0 or later, of its weekdays that is no day of SNOW for it");
        for (int day : new int[] {1, 31, 32, 33, 63, 64, 255, 256, 287, 288, 299, 300}) {
            CarrierNet x = after(CartBoundaryTest::everyDayCart);
            yes("snow", x.snow(0, day));
            for (int other = 0; other <= 300; other++) {
                due("day " + other, other == day ? 0 : 1, x.runs(0, other));
            }
        }
    }

    // ---- promise 6 ----

    private static void theWeekdayIsTheDayModulo7() {
        doc("its weekday is d modulo 7");
        CarrierNet x = new CarrierNet();
        x.cart(1, 0, 0, 0, 0);
        x.cart(64, 0, 0, 0, 0);
        int[][] days = {{0, 1, 0}, {1, 0, 0}, {6, 0, 1}, {7, 1, 0}, {8, 0, 0}, {13, 0, 1}, {14, 1, 0}, {293, 0, 1},
            {294, 1, 0}, {295, 0, 0}, {299, 0, 0}, {300, 0, 1}};
        for (int[] d : days) {
            due("weekday 0 on " + d[0], d[1], x.runs(0, d[0]));
            due("weekday 6 on " + d[0], d[2], x.runs(1, d[0]));
        }
    }

    private static void aDayHas24Hours() {
        doc("DAY d has HOURS 24 d .. 24 d + 23");
        CarrierNet x = new CarrierNet();
        line(x, terms(1, 23, 5, 1), 0, 1, 1);
        line(x, terms(2, 0, 5, 1), 2, 3, 1);
        due("the last hour of day 0", 24, x.soon(0, 23, 1));
        due("then day 7's", 192, x.soon(0, 24, 1));
        due("the first hour of day 1", 25, x.soon(2, 0, 3));
        due("that hour", 25, x.soon(2, 24, 3));
        due("then day 8's", 193, x.soon(2, 25, 3));
    }

    private static void noRunAheadOfDay0() {
        doc("A RUN of a CART: on each DAY d, 0 or later");
        for (int back : new int[] {24, 48}) {
            CarrierNet x = new CarrierNet();
            line(x, terms(EVERY_DAY, 5, 5, 1), 0, 1, back, 2, back + 3);
            due("day 0's run, not one of a day ahead", 5 + back + 3, x.soon(1, 0, 2));
            due("so long", 2, x.reach(1, 0, 5 + back + 2));
            x.parcel(1, 2, 1);
            x.tick(5 + back - 1);
            waits(x, 0, 1, 0);
            x.tick(1);
            state(x, 0, NONE, 0, 0, 5 + back + 3, NONE, 1);
        }
        CarrierNet y = new CarrierNet();
        line(y, terms(EVERY_DAY, 0, 5, 1), 0, 1, 1);
        due("day -1", NONE, y.runs(0, -1));
        due("day -7", NONE, y.room(0, -7));
        due("day 0", 1, y.soon(0, 0, 1));
    }

    // ---- promise 14 ----

    private static void faresComeAsAParcelLeaves() {
        doc("as a PARCEL leaves a RUN its size times the CART's FARE (as it is then) comes to the CART.");
        CarrierNet x = new CarrierNet();
        line(x, terms(EVERY_DAY, 1, 5, 7), 0, 1, 4);
        line(x, terms(EVERY_DAY, 5, 5, 11), 1, 2, 1);
        x.parcel(0, 2, 3);
        x.tick(4);
        due("an hour ahead", 0, x.fares(0));
        x.tick(1);
        due("as it leaves, though it has not come", 21, x.fares(0));
        due("not yet", 0, x.fares(1));
        x.tick(1);
        due("the second cart's", 33, x.fares(1));
        due("once", 21, x.fares(0));
        due("in all", 54, x.count(6));
        x.tick(100);
        due("in all, later", 54, x.count(6));
    }

    // ---- promise 15 ----

    private static void roomOfNoSuchRun() {
        doc("ROOM left of a CART's RUN of a DAY, NOW. NONE: no such RUN.");
        Story story = x -> {
            x.cart(1, 1, 9, 1, 0);
            x.snow(0, 7);
        };
        refused("no weekday of its", NONE, story, "room", 0, 1);
        refused("snow", NONE, story, "room", 0, 7);
        refused("ahead of day 0", NONE, story, "room", 0, -7);
        CarrierNet x = after(story);
        due("day 0", 9, x.room(0, 0));
        due("day 14", 9, x.room(0, 14));
        due("day 294", 9, x.room(0, 294));
        due("day 301 has a run too: each day, 0 or later", 9, x.room(0, 301));
        due("day 302 is no weekday of its", NONE, x.room(0, 302));
    }

    private static void roomIsOfOneRun() {
        doc("ROOM of a RUN is that of its CART less the sizes of what is on it.");
        CarrierNet x = new CarrierNet();
        line(x, terms(EVERY_DAY, 0, 20, 1), 0, 1, 60);
        for (int day = 1; day <= 5; day++) {
            x.parcel(0, 1, day);
            x.tick(24);
            for (int other = 0; other <= 9; other++) {
                // Hour 24 day: what got on at day d left at 24 d + 60.
                boolean isOn = other >= 1 && other <= day && 24 * other + 60 > 24 * day;
                due("room of " + other + " on day " + day, isOn ? 20 - other : 20, x.room(0, other));
            }
        }
    }

    private static void roomFromFullToWhole() {
        doc("ROOM of a RUN is that of its CART less the sizes of what is on it.");
        CarrierNet x = new CarrierNet();
        line(x, terms(EVERY_DAY, 1, 20, 1), 0, 1, 4, 2, 8);
        x.parcel(0, 1, 19);
        x.parcel(0, 2, 1);
        due("whole", 20, x.room(0, 0));
        x.tick(1);
        due("full", 0, x.room(0, 0));
        x.tick(3);
        due("full", 0, x.room(0, 0));
        x.tick(1);
        due("one left it", 19, x.room(0, 0));
        x.tick(4);
        due("whole again", 20, x.room(0, 0));
    }

    public static void main(String[] args) throws ReflectiveOperationException {
        all(CartBoundaryTest.class);
    }
}
