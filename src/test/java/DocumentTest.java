import java.io.IOException;
import java.nio.file.DirectoryStream;
import java.nio.file.Files;
import java.nio.file.Path;
import java.util.regex.Matcher;
import java.util.regex.Pattern;

/**
 * The document once more from its first line: each sentence of "What it is" and "Terms", quoted whole and in its
 * order. The promises are quoted whole in PromiseTest.
 */
public final class DocumentTest extends Checks {
    private static final int FALSE = 0;
    private static final Pattern QUOTATION =
        Pattern.compile("doc\\(\\s*(\"(?:[^\"\\\\]|\\\\.)*\"(?:\\s*\\+\\s*\"(?:[^\"\\\\]|\\\\.)*\")*)\\s*\\)");

    // ---- what it is ----

    private static void s01ANetOfVillageCarriers() {
        doc("A net of village carriers: carts that go on told days of the week from inn to inn; how soon one can be "
            + "where, what is come to by when, whom a lost carrier cuts off; parcels that wait at inns, ride where it "
            + "brings them soonest and there is room, change carts and are led hour by hour; snow; fares; and errands "
            + "in a market town within an hour's walk, as many as pay best.");
        CarrierNet x = new CarrierNet();
        line(x, terms(2 | 8, 9, 4, 2), 0, 1, 3);
        line(x, terms(8, 14, 9, 5), 1, 2, 4);
        due("how soon", 90, x.soon(0, 0, 2));
        due("come to by 89", 3, x.reach(0, 0, 89));
        due("come to by 90", 7, x.reach(0, 0, 90));
        due("cut off without the first", 1, x.cut(0, 0, 2));
        due("cut off without the second", 3, x.cut(1, 0, 2));
        x.parcel(0, 2, 3);
        x.parcel(0, 2, 2);
        x.tick(33);
        state(x, 0, NONE, 0, 1, 36, NONE, 1);
        waits(x, 1, 0, 0);
        x.tick(48);
        waits(x, 0, 1, 1);
        state(x, 1, NONE, 0, 3, 84, NONE, 1);
        x.tick(9);
        state(x, 0, 2, NONE, NONE, NONE, 90, 2);
        state(x, 1, 2, NONE, NONE, NONE, 90, 2);
        due("fares of the first", 10, x.fares(0));
        due("fares of the second", 25, x.fares(1));
        due("without snow", 258, x.soon(0, 91, 2));
        yes("snow", x.snow(1, 10));
        due("a week later", 426, x.soon(0, 91, 2));
        due("two hours earlier it is too far", NONE, x.soon(0, 89, 2));
        x.errand(3, 20, 7);
        x.errand(5, 5, 4);
        x.errand(6, 5, 4);
        due("worth", 11, x.best(60, 0));
        due("minutes", 55, x.best(60, 1));
        due("first", 3, x.round(60, 0));
        due("second", 5, x.round(60, 1));
    }

    /** Twelve carts of which each takes up where another goes by: an hour from each place to the next one. */
    private static int fullNet(CarrierNet x) {
        int calls = 0;
        for (int c = 0; c < 12; c++) {
            line(x, terms(EVERY_DAY, c, 50, 1), c, (c + 1) % 12, 1, (c + 2) % 12, 2, (c + 3) % 12, 3,
                (c + 4) % 12, 4, (c + 5) % 12, 5);
            calls += 6;
        }
        for (int p = 0; p < 60; p++, calls++) {
            x.parcel(p % 12, (p + 1) % 12, 20);
        }
        for (int day = 100; day < 200; day++, calls++) {
            x.snow(day % 12, day);
        }
        for (int shop = 1; shop <= 8; shop++, calls++) {
            x.errand(shop, shop, shop);
        }
        for (int i = 0; i < 10; i++, calls++) {
            x.tick(500);
        }
        return calls;
    }

    private static void s02TheLastOf512CallsIsAnsweredLikeTheFirst() {
        doc("An object is used for at most 512 calls after it has been made; what later calls answer is free.");
        CarrierNet x = new CarrierNet();
        int calls = fullNet(x);
        for (int hour = 6000; calls < 507; hour--, calls++) {
            x.cut(hour % 12, hour, hour % 11);
        }
        due("508th", 60, x.count(3));
        due("509th", 1200, x.count(6));
        due("510th", 36, x.best(500, 0));
        due("511th", (1 << 12) - 1, x.reach(0, 5064, 5075));
        due("512th", 6011, x.soon(0, 6000, 11));
    }

    // ---- terms: hours, places, carts ----

    private static void s03Hours() {
        doc("HOURS: NOW is 0 at first, 5,000 at most; DAY d has HOURS 24 d .. 24 d + 23, its weekday is d modulo 7.");
        CarrierNet x = new CarrierNet();
        due("at first", 0, x.count(0));
        line(x, terms(1 << 4, 23, 9, 1), 0, 1, 1);
        due("the first hour of day 4", 120, x.soon(0, 96, 1));
        due("its last hour", 120, x.soon(0, 119, 1));
        due("day 5", 288, x.soon(0, 120, 1));
        for (int day = 0; day <= 300; day++) {
            due("day " + day, day % 7 == 4 ? 1 : 0, x.runs(0, day));
        }
        x.tick(95);
        yes("day 3, its last hour", x.snow(0, 4));
        x.cart(0, 0, 0, 0, 0);
        x.tick(1);
        no("day 4, its first hour", x.snow(1, 4));
        x.tick(23);
        yes("day 4, its last hour", x.snow(0, 5));
        x.tick(1);
        no("day 5, its first hour", x.snow(1, 5));
        x.tick(380);
        for (int i = 0; i < 9; i++) {
            x.tick(500);
        }
        due("no later than 5,000", NONE, x.tick(1));
        due("at last", 5000, x.count(0));
    }

    private static void s04PlacesAndCarts() {
        doc("PLACES 0 .. 11. CARTS (12 at most): weekdays (bits 0 .. 6), an HOUR (0 .. 23), ROOM (0 .. 50), "
            + "FARE (0 .. 20), and STOPS (2 to 6): each a PLACE and an OFFSET (the first one's 0, each other one's "
            + "more than that of the one ahead, 60 at most; PLACES may come again).");
        CarrierNet x = new CarrierNet();
        for (int c = 0; c < 12; c++) {
            int next = (c + 1) % 12;
            due("its number", c, line(x, terms(EVERY_DAY, c, 50, 20), c, c, 10, next, 20, c, 30, next, 40, c, 60));
            due("a seventh stop", NONE, x.stop(c, 0, 60));
        }
        due("a thirteenth cart", NONE, x.cart(1, 1, 1, 1, 1));
        for (int c = 0; c < 12; c++) {
            int next = (c + 1) % 12;
            due("by its first two stops", c + 20, x.soon(c, c, next));
            due("by its second stop", c + 20, x.soon(c, c + 10, next));
            due("by its fourth stop", c + 40, x.soon(c, c + 25, next));
            due("back", c + 30, x.soon(next, c + 20, c));
        }
        Story two = net -> line(net, terms(EVERY_DAY, 1, 5, 1), 0, 1, 30);
        refused("not more than the one ahead", NONE, two, "stop", 0, 2, 30);
        refused("more than 60", NONE, two, "stop", 0, 2, 61);
        due("60", 3, after(two).stop(0, 2, 60));
        due("one more", 3, after(two).stop(0, 2, 31));
    }

    private static void s05ARun() {
        doc("A RUN of a CART: on each DAY d, 0 or later, of its weekdays that is no day of SNOW for it, it stops at "
            + "the STOPS' PLACES at the HOURS 24 d and HOUR and OFFSET.");
        CarrierNet x = new CarrierNet();
        line(x, terms(1 | 8 | 32, 22, 7, 1), 0, 1, 5, 2, 30);
        line(x, terms(0, 22, 7, 1), 3, 4, 5);
        x.snow(0, 3);
        x.snow(1, 5);
        for (int day = 0; day < 14; day++) {
            int week = day % 7;
            boolean goes = (week == 0 || week == 3 || week == 5) && day != 3;
            int at = 24 * day + 22;
            due("first to second, day " + day, goes ? at + 5 : -2, x.soon(0, at, 1) == at + 5 ? at + 5 : -2);
            due("second to third, day " + day, goes ? at + 30 : -2, x.soon(1, at + 5, 2) == at + 30 ? at + 30 : -2);
            due("its room, day " + day, goes ? 7 : NONE, x.room(0, day));
            due("runs, day " + day, goes ? 1 : 0, x.runs(0, day));
        }
        due("none ahead of day 0", 27, x.soon(0, 0, 1));
        due("none ahead of day 0", 52, x.soon(1, 0, 2));
        due("on no weekday", NONE, x.soon(3, 0, 4));
    }

    // ---- terms: rides and soon ----

    private static void s06ARide() {
        doc("A RIDE: from a STOP of a RUN to a later one of it.");
        CarrierNet x = new CarrierNet();
        line(x, terms(EVERY_DAY, 1, 5, 1), 0, 1, 2, 2, 4, 0, 6);
        due("to the next", 3, x.soon(0, 0, 1));
        due("past one", 5, x.soon(0, 0, 2));
        due("to the last", 7, x.soon(1, 0, 0));
        due("to an earlier one by two runs", 27, x.soon(2, 0, 1));
        due("and a day later", 51, x.soon(2, 6, 1));
    }

    private static void s07OneWhoIsAtAPlace() {
        doc("One who is at a PLACE from an HOUR on can begin a RIDE that leaves there at that HOUR or later, and is at "
            + "the other PLACE from the HOUR on at which that comes.");
        CarrierNet x = new CarrierNet();
        line(x, terms(EVERY_DAY, 1, 5, 1), 0, 1, 3);
        line(x, terms(EVERY_DAY, 4, 5, 1), 1, 2, 2);
        line(x, terms(EVERY_DAY, 3, 5, 1), 1, 2, 1);
        due("at that hour", 6, x.soon(0, 1, 2));
        due("later", 6, x.soon(0, 0, 2));
        due("not earlier", 30, x.soon(0, 2, 2));
        due("the third cart", 4, x.soon(1, 3, 2));
        due("the second one", 6, x.soon(1, 4, 2));
        due("the third cart of the next day", 28, x.soon(1, 5, 2));
    }

    private static void s08Soon() {
        doc("SOON from a PLACE at an HOUR t to a PLACE: the least HOUR from which on one can be there by RIDES, one "
            + "behind the other (t, for the same PLACE), t and 336 at most; else none.");
        CarrierNet x = new CarrierNet();
        line(x, terms(EVERY_DAY, 0, 5, 1), 0, 3, 50);
        line(x, terms(EVERY_DAY, 20, 5, 1), 0, 2, 3);
        line(x, terms(EVERY_DAY, 4, 5, 1), 2, 3, 6);
        due("two rides are sooner than one", 34, x.soon(0, 0, 3));
        due("one ride is as soon as it is", 50, x.soon(3, 50, 3));
        line(x, terms(1, 0, 5, 1), 4, 5, 1);
        line(x, terms(1, 0, 5, 1), 5, 6, 2);
        due("the same place", 17, x.soon(4, 17, 4));
        due("this week and the next", 170, x.soon(4, 0, 6));
        due("337 hours", NONE, x.soon(4, 1, 6));
        due("336 hours", 338, x.soon(4, 2, 6));
        due("335 hours", 338, x.soon(4, 3, 6));
        due("no way", NONE, x.soon(6, 0, 4));
    }

    // ---- terms: parcels ----

    private static void s09Parcels() {
        doc("PARCELS (60 at most): of a size (1 .. 20), given NOW at a PLACE for another one.");
        CarrierNet x = new CarrierNet();
        line(x, terms(EVERY_DAY, 5, 40, 1), 0, 1, 2);
        x.tick(4);
        due("given at 4", 0, x.parcel(0, 1, 20));
        x.tick(1);
        due("given at 5", 1, x.parcel(0, 1, 1));
        state(x, 0, NONE, 0, 0, 7, NONE, 1);
        waits(x, 1, 0, 0);
        x.tick(24);
        state(x, 0, 1, NONE, NONE, NONE, 7, 1);
        state(x, 1, NONE, 0, 1, 31, NONE, 1);
        for (int p = 2; p < 60; p++) {
            due("its number", p, x.parcel(p % 12, (p + 5) % 12, p % 20 + 1));
        }
        due("a 61st", NONE, x.parcel(0, 1, 1));
        for (int p = 2; p < 60; p++) {
            due("where it goes", (p + 5) % 12, told(x, p, 0));
            due("its size", p % 20 + 1, told(x, p, 1));
            waits(x, p, p % 12, 0);
        }
    }

    private static void s10WhereAParcelIs() {
        doc("A PARCEL is at an inn of a PLACE, on a RUN, or has come.");
        CarrierNet x = after(DocumentTest::threeCarts);
        for (int i = 0; i < 9; i++) {
            int inns = 0;
            int runs = 0;
            int come = 0;
            for (int p = 0; p < 5; p++) {
                boolean rides = told(x, p, 3) != NONE;
                boolean came = told(x, p, 6) != NONE;
                due("a place or a run, " + p, rides ? 1 : 0, told(x, p, 2) == NONE ? 1 : 0);
                due("a day with its run, " + p, rides ? 1 : 0, told(x, p, 4) == NONE ? 0 : 1);
                due("an hour with its run, " + p, rides ? 1 : 0, told(x, p, 5) == NONE ? 0 : 1);
                no("on a run and come, " + p, rides && came);
                runs += rides ? 1 : 0;
                come += came ? 1 : 0;
                inns += rides || came ? 0 : 1;
            }
            int waiting = 0;
            for (int place = 0; place < 12; place++) {
                waiting += x.waiting(place);
            }
            due("at inns", inns, waiting);
            due("on runs", runs, x.count(4));
            due("come", come, x.count(3));
            x.tick(7);
        }
    }

    private static void s11AnHour() {
        doc("An HOUR: NOW is 1 more; then (1) PARCELS whose RUN is NOW at the STOP at which they leave it are at the "
            + "inn there, and have come if it is where they go;");
        CarrierNet x = new CarrierNet();
        line(x, terms(EVERY_DAY, 1, 5, 1), 0, 1, 2, 2, 4);
        x.parcel(1, 2, 5);
        x.parcel(0, 1, 5);
        for (int hour = 1; hour <= 5; hour++) {
            due("one more", hour, x.tick(1));
            due("the hour it leaves", hour < 3 ? NONE : 3, told(x, 1, 6));
            due("the room that it leaves is taken", hour < 3 ? 0 : 1, told(x, 0, 7));
        }
        state(x, 0, 2, NONE, NONE, NONE, 5, 1);
        CarrierNet steps = after(DocumentTest::threeCarts);
        CarrierNet leap = after(DocumentTest::threeCarts);
        for (int i = 0; i < 36; i++) {
            steps.tick(1);
        }
        leap.tick(36);
        for (int p = 0; p < 5; p++) {
            for (int what = 0; what < 8; what++) {
                due("hour by hour, " + p + ", " + what, told(steps, p, what), told(leap, p, what));
            }
        }
    }

    /** From 0 to 4 one comes at 11: at 8 from 1 by cart 1, or at 10 from 2 by cart 2. Place 5 has no cart. */
    private static void threeCarts(CarrierNet x) {
        line(x, terms(EVERY_DAY, 6, 5, 1), 0, 1, 2, 2, 4, 3, 9);
        line(x, terms(EVERY_DAY, 8, 5, 2), 1, 2, 1, 4, 3);
        line(x, terms(EVERY_DAY, 10, 3, 3), 2, 4, 1);
        x.parcel(0, 4, 2);
        x.parcel(0, 4, 4);
        x.parcel(0, 4, 3);
        x.parcel(1, 4, 3);
        x.parcel(0, 5, 1);
    }

    private static void s12HowParcelsRide() {
        doc("(2) PARCELS at inns that have not come, rising: of the RUNS that stop at their PLACE NOW (not for the last "
            + "time) and have ROOM for its size, by CARTS, then DAYS: the first one with a later STOP from which SOON "
            + "to where it goes, at the HOUR it stops there, is SOON from here NOW; it rides to the last such STOP (if "
            + "SOON is none: it waits).");
        CarrierNet x = after(DocumentTest::threeCarts);
        x.tick(6);
        state(x, 0, NONE, 0, 0, 10, NONE, 1);
        waits(x, 1, 0, 0);
        state(x, 2, NONE, 0, 0, 10, NONE, 1);
        waits(x, 3, 1, 0);
        x.tick(2);
        state(x, 3, NONE, 1, 0, 11, NONE, 1);
        x.tick(2);
        state(x, 0, NONE, 2, 0, 11, NONE, 2);
        waits(x, 2, 2, 1);
        x.tick(1);
        state(x, 0, 4, NONE, NONE, NONE, 11, 2);
        state(x, 3, 4, NONE, NONE, NONE, 11, 1);
        x.tick(22);
        state(x, 1, NONE, 0, 1, 34, NONE, 1);
        state(x, 2, NONE, 1, 1, 35, NONE, 2);
        x.tick(1);
        waits(x, 1, 2, 1);
        x.tick(23);
        state(x, 1, NONE, 1, 2, 59, NONE, 2);
        x.tick(100);
        state(x, 1, 4, NONE, NONE, NONE, 59, 2);
        waits(x, 4, 0, 0);
        int[] fares = {9, 20, 6};
        for (int c = 0; c < 3; c++) {
            due("fares of " + c, fares[c], x.fares(c));
        }
    }

    private static void s13Room() {
        doc("ROOM of a RUN is that of its CART less the sizes of what is on it.");
        CarrierNet x = after(DocumentTest::threeCarts);
        due("empty", 5, x.room(0, 0));
        x.tick(6);
        due("two and three are on it", 0, x.room(0, 0));
        due("the next day's run", 5, x.room(0, 1));
        due("another cart's", 5, x.room(1, 0));
        x.tick(4);
        due("left", 5, x.room(0, 0));
        due("three is on it", 2, x.room(1, 0));
        due("two is on it", 1, x.room(2, 0));
        x.tick(1);
        yes("changed", x.change(2, EVERY_DAY, 50, 3));
        due("as its cart's", 50, x.room(2, 0));
        due("as its cart's", 50, x.room(2, 1));
    }

    private static void s14Fares() {
        doc("FARES: as a PARCEL leaves a RUN its size times the CART's FARE (as it is then) comes to the CART.");
        CarrierNet x = new CarrierNet();
        line(x, terms(EVERY_DAY, 1, 9, 3), 0, 1, 4);
        x.parcel(0, 1, 4);
        x.parcel(0, 1, 9);
        yes("changed while it waits", x.change(0, EVERY_DAY, 9, 5));
        x.tick(4);
        due("on its way", 0, x.fares(0));
        x.tick(1);
        due("as it leaves", 20, x.fares(0));
        yes("changed behind it", x.change(0, EVERY_DAY, 9, 20));
        due("what it has stays", 20, x.fares(0));
        x.tick(24);
        due("the other one by the new fare", 200, x.fares(0));
        due("in all", 200, x.count(6));
    }

    private static void ladenNet(CarrierNet x) {
        line(x, terms(EVERY_DAY, 20, 9, 3), 0, 1, 30);
        line(x, terms(EVERY_DAY, 20, 9, 3), 1, 2, 10);
        x.parcel(0, 1, 4);
        x.tick(28);
    }

    private static void s15WhatCanBeTold() {
        doc("SNOW is told of a CART and a DAY behind that of NOW. CARTS, their STOPS, can be told as long as no PARCEL "
            + "is on a RUN of theirs.");
        refused("a parcel is on it", NONE, DocumentTest::ladenNet, "stop", 0, 2, 40);
        refused("a parcel is on it", FALSE, DocumentTest::ladenNet, "change", 0, 1, 2, 3);
        refused("the day of now", FALSE, DocumentTest::ladenNet, "snow", 0, 1);
        refused("the day ahead", FALSE, DocumentTest::ladenNet, "snow", 1, 0);
        CarrierNet x = after(DocumentTest::ladenNet);
        state(x, 0, NONE, 0, 0, 50, NONE, 1);
        yes("snow for a laden cart", x.snow(0, 2));
        yes("snow for another one", x.snow(1, 2));
        due("a stop of another one", 3, x.stop(1, 3, 12));
        yes("another one is changed", x.change(1, 1, 2, 3));
        due("another one", 2, x.cart(1, 1, 1, 1, 1));
        x.tick(21);
        no("still on it", x.change(0, 1, 2, 3));
        x.tick(1);
        due("it has left", 3, x.stop(0, 2, 40));
        yes("it has left", x.change(0, 1, 2, 3));
    }

    // ---- terms: errands ----

    private static void s16Errands() {
        doc("ERRANDS: SHOPS 1 .. 8 (0 is the inn), WALK minutes between any two (0 .. 60, either way alike; 10 at "
            + "first), a list (cleared as told): for a SHOP minutes there (0 .. 60) and a WORTH (0 .. 100).");
        CarrierNet x = new CarrierNet();
        for (int shop = 1; shop <= 8; shop++) {
            yes("a shop", x.errand(shop, 60, 100));
            due("its worth", 100, x.best(80, 0));
            due("there and back", 80, x.best(80, 1));
            due("it", shop, x.round(80, 0));
            yes("its walk", x.walk(shop, 0, 60));
            due("too far", 0, x.best(179, 0));
            due("as far as can be", 180, x.best(180, 1));
            x.clear();
            due("cleared", 0, x.count(7));
        }
        for (int one = 1; one <= 8; one++) {
            int other = one % 8 + 1;
            yes("a walk", x.walk(one, other, one));
            x.errand(one, 0, 1);
            x.errand(other, 0, 1);
            due("there, over and back", 120 + one, x.best(500, 1));
            x.clear();
        }
    }

    private static void s17ARound() {
        doc("A ROUND begins and ends at the inn, goes to some SHOPS of the list, once each.");
        CarrierNet x = new CarrierNet();
        x.walk(0, 1, 1);
        x.walk(0, 2, 2);
        x.walk(0, 3, 4);
        x.walk(1, 2, 60);
        x.errand(1, 0, 1);
        x.errand(2, 0, 1);
        due("not by the inn again", 63, x.best(500, 1));
        due("none", 0, x.best(1, 2));
        due("one", 1, x.best(62, 2));
        due("both", 2, x.best(63, 2));
        x.errand(3, 0, 0);
        due("by a third one, once", 1 + 10 + 10 + 2, x.best(500, 1));
        int[] shops = {1, 3, 2, NONE};
        for (int i = 0; i < 4; i++) {
            due("shop " + i, shops[i], x.round(500, i));
        }
    }

    private static void s18Best() {
        doc("BEST within so many minutes (0 .. 500): of all ROUNDS that take (WALKS and minutes there) no more, one of "
            + "the greatest sum of WORTH; of these of the fewest minutes; of these the one that has the lower SHOP "
            + "where they first differ (one that is over is ahead of one that goes on).");
        CarrierNet x = new CarrierNet();
        x.errand(1, 10, 5);
        x.errand(2, 0, 5);
        x.errand(3, 20, 5);
        round(x, 40, 10, 40, 1, 2);
        round(x, 39, 5, 20, 2);
        x.walk(0, 3, 0);
        x.walk(2, 3, 5);
        round(x, 40, 10, 35, 2, 3);
        round(x, 34, 5, 20, 2);
        round(x, 19, 0, 0);
        x.walk(0, 4, 0);
        x.errand(4, 0, 0);
        round(x, 40, 10, 35, 2, 3);
        round(x, 34, 5, 20, 2);
        x.errand(1, 0, 5);
        round(x, 34, 10, 30, 1, 2);
        x.errand(4, 0, 1);
        round(x, 30, 11, 30, 1, 2, 4);
        round(x, 0, 1, 0, 4);
        due("within 501", NONE, x.best(501, 0));
        due("within -1", NONE, x.round(-1, 0));
    }

    private static void round(CarrierNet x, int within, int worth, int minutes, int... shops) {
        due("worth within " + within, worth, x.best(within, 0));
        due("minutes within " + within, minutes, x.best(within, 1));
        due("shops within " + within, shops.length, x.best(within, 2));
        for (int i = 0; i < shops.length; i++) {
            due("shop " + i + " within " + within, shops[i], x.round(within, i));
        }
        due("behind the last within " + within, NONE, x.round(within, shops.length));
    }

    // ---- what is refused, the constants ----

    private static void s19WhatIsRefused() {
        doc("What is refused answers as told and changes nothing.");
        Story busy = x -> {
            threeCarts(x);
            x.errand(2, 3, 4);
            x.tick(7);
        };
        refused("weekdays", NONE, busy, "cart", 128, 1, 1, 1, 1);
        refused("place", NONE, busy, "stop", 1, 12, 60);
        refused("room", FALSE, busy, "change", 1, 1, 51, 1);
        refused("day", FALSE, busy, "snow", 1, 301);
        refused("day", NONE, busy, "runs", 1, 301);
        refused("hour", NONE, busy, "soon", 0, 6001, 4);
        refused("by", NONE, busy, "reach", 0, 9, 8);
        refused("hour", NONE, busy, "cut", 0, -1, 4);
        refused("alike", NONE, busy, "parcel", 2, 2, 1);
        refused("n", NONE, busy, "tick", 501);
        refused("what", THROWN, busy, "told", 0, 8);
        refused("place", NONE, busy, "waiting", 12);
        refused("cart", NONE, busy, "fares", 3);
        refused("day", NONE, busy, "room", 0, -1);
        refused("alike", FALSE, busy, "walk", 2, 2, 1);
        refused("the inn", FALSE, busy, "errand", 0, 1, 1);
        refused("what", NONE, busy, "best", 60, 3);
        refused("i", NONE, busy, "round", 60, 8);
        refused("what", NONE, busy, "count", 8);
    }

    private static void s20TheConstants() {
        doc("The constants: `NONE = -1`: None; refused.");
        due("NONE", -1, CarrierNet.NONE);
        due("none", -1, new CarrierNet().soon(0, 0, 1));
        due("refused", -1, new CarrierNet().soon(0, 0, 12));
    }

    // ---- nothing is left out ----

    /** What is left when headings, fences and the face are taken away, which FaceTest looks at. */
    private static String sentences() {
        String text = section("## What it is", "## The public face") + section("## Terms", "## Not promised");
        return text.replaceAll("(?m)^(#|```).*$", " ").replaceAll("==== \\d\\.", " ").replaceAll("\\s+", " ");
    }

    private static void s21EveryWordIsQuotedByATest() throws IOException {
        String text = sentences();
        StringBuilder left = new StringBuilder(text);
        try (DirectoryStream<Path> files = Files.newDirectoryStream(Path.of("src/test/java"), "*.java")) {
            for (Path file : files) {
                Matcher found = QUOTATION.matcher(Files.readString(file));
                while (found.find()) {
                    String quoted = found.group(1).replaceAll("\"\\s*\\+\\s*\"", "");
                    wipe(text, quoted.substring(1, quoted.length() - 1), left);
                }
            }
        }
        for (String words : left.toString().split("\\s{2,}")) {
            if (words.matches(".*[A-Za-z0-9].*")) {
                fault("no test quotes: " + words);
            }
        }
    }

    private static void wipe(String text, String quoted, StringBuilder left) {
        for (int at = text.indexOf(quoted); at >= 0 && !quoted.isEmpty(); at = text.indexOf(quoted, at + 1)) {
            left.replace(at, at + quoted.length(), " ".repeat(quoted.length()));
        }
    }

    public static void main(String[] args) throws ReflectiveOperationException {
        all(DocumentTest.class);
    }
}
