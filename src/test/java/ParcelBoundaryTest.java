/** Boundary sentences of promises 10 to 13 and of the terms behind them, one test each. */
public final class ParcelBoundaryTest extends Checks {

    // ---- promise 10 ----

    private static void sixtyParcels(CarrierNet x) {
        line(x, terms(EVERY_DAY, 1, 50, 1), 0, 1, 4);
        for (int i = 0; i < 60; i++) {
            due("its number", i, x.parcel(i % 12, (i + 1) % 12, 1 + i % 20));
        }
    }

    private static void a61stParcelIsRefused() {
        doc("PARCELS (60 at most)");
        refused("there are 60", NONE, ParcelBoundaryTest::sixtyParcels, "parcel", 0, 1, 1);
        CarrierNet x = after(ParcelBoundaryTest::sixtyParcels);
        due("sixty", 60, x.count(2));
        for (int place = 0; place < 12; place++) {
            due("five at each", 5, x.waiting(place));
        }
        due("the last one's way", 0, told(x, 59, 0));
        due("no 61st", THROWN, told(x, 60, 0));
    }

    private static void parcelsThatHaveComeAreCountedToo() {
        doc("PARCELS (60 at most)");
        CarrierNet x = new CarrierNet();
        line(x, terms(EVERY_DAY, 1, 50, 1), 0, 1, 4);
        for (int i = 0; i < 60; i++) {
            x.parcel(0, 1, 1);
        }
        x.tick(29);
        due("all have come", 60, x.count(3));
        due("there are 60 still", NONE, x.parcel(0, 1, 1));
    }

    private static void aSizeIs1To20() {
        doc("of a size (1 .. 20)");
        Story nothing = x -> { };
        refused("0", NONE, nothing, "parcel", 0, 1, 0);
        refused("21", NONE, nothing, "parcel", 0, 1, 21);
        CarrierNet x = new CarrierNet();
        line(x, terms(EVERY_DAY, 1, 21, 1), 0, 1, 4);
        due("1", 0, x.parcel(0, 1, 1));
        due("20", 1, x.parcel(0, 1, 20));
        due("size", 1, told(x, 0, 1));
        due("size", 20, told(x, 1, 1));
        x.tick(1);
        due("both are on it", 0, x.room(0, 0));
    }

    private static void aParcelIsForAnotherPlace() {
        doc("NONE: no such PLACES, alike, size; there are 60.");
        for (int place = 0; place < 12; place++) {
            refused("alike", NONE, x -> { }, "parcel", place, place, 1);
        }
        due("the places beside it", 0, new CarrierNet().parcel(5, 6, 1));
        due("the places beside it", 0, new CarrierNet().parcel(5, 4, 1));
    }

    private static void aParcelIsGivenNow() {
        doc("given NOW at a PLACE for another one");
        CarrierNet x = new CarrierNet();
        line(x, terms(EVERY_DAY, 0, 5, 1), 0, 1, 4);
        x.parcel(0, 1, 1);
        x.tick(0);
        waits(x, 0, 0, 0);
        x.tick(23);
        waits(x, 0, 0, 0);
        x.tick(1);
        x.parcel(0, 1, 1);
        state(x, 0, NONE, 0, 1, 28, NONE, 1);
        x.tick(1);
        waits(x, 1, 0, 0);
    }

    private static void aParcelAt5000() {
        doc("5,000 at most");
        CarrierNet x = new CarrierNet();
        // Day 208 has the hours 4992 on.
        line(x, terms(EVERY_DAY, 8, 5, 1), 0, 1, 4);
        line(x, terms(EVERY_DAY, 4, 5, 1), 2, 3, 4);
        line(x, terms(EVERY_DAY, 4, 5, 1), 4, 5, 5);
        for (int i = 0; i < 10; i++) {
            due("tick", 499 * (i + 1), x.tick(499));
        }
        due("given in time", 0, x.parcel(0, 1, 1));
        x.parcel(2, 3, 2);
        x.parcel(4, 5, 3);
        due("tick", 5000, x.tick(10));
        state(x, 0, NONE, 0, 208, 5004, NONE, 1);
        state(x, 1, 3, NONE, NONE, NONE, 5000, 1);
        state(x, 2, NONE, 2, 208, 5001, NONE, 1);
        due("still taken", 3, x.parcel(0, 1, 1));
        due("its inn", 1, x.waiting(0));
        due("on runs", 2, x.count(4));
        no("they are on it for ever", x.change(2, 1, 1, 1));
        due("soon is told still", 5004, x.soon(0, 5000, 1));
    }

    // ---- promise 11 ----

    private static void nowIs5000AtMost() {
        doc("NOW is 0 at first, 5,000 at most");
        Story story = x -> {
            sixtyParcels(x);
            for (int i = 0; i < 10; i++) {
                x.tick(500);
            }
        };
        due("5000", 5000, after(story).count(0));
        due("none", 5000, after(story).tick(0));
        refused("one more", NONE, story, "tick", 1);
        refused("many more", NONE, story, "tick", 500);
        refused("more than an int holds", NONE, story, "tick", HIGH);
    }

    private static void whatWouldGoBeyond5000GoesNotAtAll() {
        doc("NONE: n, NOW would be above 5,000.");
        Story story = x -> {
            sixtyParcels(x);
            for (int i = 0; i < 9; i++) {
                x.tick(500);
            }
            x.tick(1);
        };
        refused("5001", NONE, story, "tick", 500);
        due("5000", 5000, after(story).tick(499));
    }

    private static void ticksAreHoursOneByOne() {
        doc("n HOURS (0 .. 500): NOW.");
        CarrierNet x = after(ParcelBoundaryTest::sixtyParcels);
        CarrierNet y = after(ParcelBoundaryTest::sixtyParcels);
        for (int i = 1; i <= 100; i++) {
            due("one", i, x.tick(1));
        }
        due("a hundred", 100, y.tick(100));
        due("none", 100, y.tick(0));
        for (int what = 0; what < 8; what++) {
            due("count " + what, x.count(what), y.count(what));
        }
        for (int parcel = 0; parcel < 60; parcel += 3) {
            for (int what = 2; what < 8; what++) {
                due("told " + parcel + " " + what, told(x, parcel, what), told(y, parcel, what));
            }
        }
    }

    private static void leavingIsAheadOfGettingOn() {
        doc("(1) PARCELS whose RUN is NOW at the STOP at which they leave it are at the inn there");
        CarrierNet x = new CarrierNet();
        line(x, terms(EVERY_DAY, 1, 10, 1), 0, 1, 4, 2, 8);
        // The one with the lower number gets on where the other one leaves: its room is free by then.
        x.parcel(1, 2, 10);
        x.parcel(0, 1, 10);
        x.tick(4);
        waits(x, 0, 1, 0);
        due("full", 0, x.room(0, 0));
        x.tick(1);
        state(x, 0, NONE, 0, 0, 9, NONE, 1);
        state(x, 1, 1, NONE, NONE, NONE, 5, 1);
        due("full", 0, x.room(0, 0));
    }

    private static void aParcelGoesOnInTheHourInWhichItLeft() {
        doc("(2) PARCELS at inns that have not come, rising");
        for (int leaves = 4; leaves <= 6; leaves++) {
            CarrierNet x = new CarrierNet();
            line(x, terms(EVERY_DAY, leaves, 10, 1), 1, 2, 2);
            line(x, terms(EVERY_DAY, 1, 10, 1), 0, 1, 4);
            x.parcel(0, 2, 1);
            x.tick(5);
            if (leaves == 5) {
                state(x, 0, NONE, 0, 0, 7, NONE, 2);
            } else if (leaves == 6) {
                waits(x, 0, 1, 1);
            } else {
                waits(x, 0, 1, 1);
                x.tick(22);
                waits(x, 0, 1, 1);
                x.tick(1);
                state(x, 0, NONE, 0, 1, 30, NONE, 2);
            }
        }
    }

    private static void aParcelThatHasComeStays() {
        doc("and have come if it is where they go");
        CarrierNet x = new CarrierNet();
        line(x, terms(EVERY_DAY, 1, 10, 1), 0, 1, 4, 2, 8, 1, 9);
        x.parcel(0, 1, 1);
        x.tick(500);
        state(x, 0, 1, NONE, NONE, NONE, 5, 1);
        due("come", 1, x.count(3));
        due("paid once", 1, x.fares(0));
        due("waits not", 0, x.waiting(1));
    }

    private static void theLowerNumberIsFirst() {
        doc("PARCELS at inns that have not come, rising");
        CarrierNet x = new CarrierNet();
        line(x, terms(EVERY_DAY, 1, 10, 1), 0, 1, 4);
        x.parcel(0, 1, 7);
        x.parcel(0, 1, 4);
        x.parcel(0, 1, 3);
        x.parcel(0, 1, 1);
        x.tick(1);
        state(x, 0, NONE, 0, 0, 5, NONE, 1);
        waits(x, 1, 0, 0);
        state(x, 2, NONE, 0, 0, 5, NONE, 1);
        waits(x, 3, 0, 0);
        due("at the inn", 2, x.waiting(0));
        x.tick(24);
        state(x, 1, NONE, 0, 1, 29, NONE, 1);
        state(x, 3, NONE, 0, 1, 29, NONE, 1);
    }

    private static void aRunAtItsLastStopTakesNobody() {
        doc("of the RUNS that stop at their PLACE NOW (not for the last time)");
        CarrierNet x = new CarrierNet();
        line(x, terms(EVERY_DAY, 1, 10, 1), 0, 1, 4, 0, 8);
        line(x, terms(EVERY_DAY, 9, 10, 1), 0, 1, 10);
        x.tick(1);
        x.parcel(0, 1, 1);
        x.tick(8);
        // Cart 0 is at place 0 for the last time; cart 1 is the soonest then.
        state(x, 0, NONE, 1, 0, 19, NONE, 1);
        CarrierNet y = new CarrierNet();
        line(y, terms(EVERY_DAY, 1, 10, 1), 2, 0, 4, 3, 5, 0, 8, 1, 9);
        y.parcel(0, 1, 1);
        y.tick(5);
        // It may ride on the round to place 3 and back: it rides to the last stop in time.
        state(y, 0, NONE, 0, 0, 10, NONE, 1);
    }

    private static void roomForItsSize() {
        doc("and have ROOM for its size");
        for (int room = 6; room <= 8; room++) {
            CarrierNet x = new CarrierNet();
            line(x, terms(EVERY_DAY, 1, room, 1), 0, 1, 4);
            x.parcel(0, 1, 7);
            x.tick(1);
            if (room < 7) {
                waits(x, 0, 0, 0);
            } else {
                state(x, 0, NONE, 0, 0, 5, NONE, 1);
                due("room", room - 7, x.room(0, 0));
            }
        }
    }

    private static void aFullRunIsPassedByForTheNextCart() {
        doc("by CARTS, then DAYS: the first one with a later STOP from which SOON to where it goes");
        CarrierNet x = new CarrierNet();
        line(x, terms(EVERY_DAY, 1, 1, 1), 0, 1, 4);
        line(x, terms(EVERY_DAY, 1, 1, 1), 0, 1, 5);
        line(x, terms(EVERY_DAY, 1, 1, 1), 0, 1, 4);
        x.parcel(0, 1, 1);
        x.parcel(0, 1, 1);
        x.parcel(0, 1, 1);
        x.tick(1);
        state(x, 0, NONE, 0, 0, 5, NONE, 1);
        state(x, 1, NONE, 2, 0, 5, NONE, 1);
        // Cart 1 comes an hour late, so it waits, though there is room.
        waits(x, 2, 0, 0);
    }

    private static void threeRunsOfACartByTheirDays() {
        doc("by CARTS, then DAYS");
        CarrierNet x = new CarrierNet();
        line(x, terms(EVERY_DAY, 0, 1, 1), 0, 0, 24, 0, 48, 1, 49);
        line(x, terms(64, 0, 9, 1), 1, 2, 1);
        x.tick(47);
        for (int i = 0; i < 4; i++) {
            x.parcel(0, 2, 1);
        }
        x.tick(1);
        // At hour 48 three runs are at place 0, each with room for one; all are in time for cart 1.
        state(x, 0, NONE, 0, 0, 49, NONE, 1);
        state(x, 1, NONE, 0, 1, 73, NONE, 1);
        state(x, 2, NONE, 0, 2, 97, NONE, 1);
        waits(x, 3, 0, 0);
        due("day 0's is full", 0, x.room(0, 0));
        due("day 3's is whole", 1, x.room(0, 3));
        x.tick(24);
        state(x, 3, NONE, 0, 3, 121, NONE, 1);
    }

    private static void toTheLastStopInTime() {
        doc("it rides to the last such STOP");
        CarrierNet x = new CarrierNet();
        line(x, terms(EVERY_DAY, 1, 5, 1), 0, 1, 2, 1, 3, 1, 4, 3, 5);
        line(x, terms(EVERY_DAY, 4, 5, 1), 1, 2, 6);
        x.parcel(0, 2, 1);
        x.tick(1);
        // Cart 1 leaves place 1 at hour 4: the stop at hour 4 is in time, that at 5 is not.
        state(x, 0, NONE, 0, 0, 4, NONE, 1);
        CarrierNet y = new CarrierNet();
        line(y, terms(EVERY_DAY, 1, 5, 1), 0, 1, 2, 2, 3, 1, 4);
        y.parcel(0, 1, 1);
        y.tick(1);
        // The second time at place 1 is no longer the soonest.
        state(y, 0, NONE, 0, 0, 3, NONE, 1);
    }

    /** A cart to place 1 each hour-1, whence one goes on once, to come to place 2 at 336 and an offset. */
    private static CarrierNet farAway(int offset) {
        CarrierNet x = new CarrierNet();
        line(x, terms(EVERY_DAY, 1, 5, 1), 0, 1, 1);
        line(x, terms(1, 0, 5, 1), 1, 2, offset);
        x.snow(1, 7);
        x.parcel(0, 2, 1);
        return x;
    }

    private static void itWaitsIfSoonIsNone() {
        doc("(if SOON is none: it waits)");
        CarrierNet x = farAway(1);
        x.tick(1);
        state(x, 0, NONE, 0, 0, 2, NONE, 1);
        CarrierNet y = farAway(2);
        y.tick(1);
        waits(y, 0, 0, 0);
        y.tick(23);
        waits(y, 0, 0, 0);
        y.tick(1);
        state(y, 0, NONE, 0, 1, 26, NONE, 1);
        y.tick(312);
        state(y, 0, NONE, 1, 14, 338, NONE, 2);
    }

    private static void itGoesOnIfSoonIsNoneFromWhereItLeft() {
        doc("if SOON is none: it waits");
        CarrierNet x = farAway(1);
        x.tick(2);
        waits(x, 0, 1, 1);
        yes("snow on the one that it waits for", x.snow(1, 14));
        x.tick(334);
        waits(x, 0, 1, 1);
        x.tick(168);
        state(x, 0, NONE, 1, 21, 505, NONE, 2);
        x.tick(1);
        state(x, 0, 2, NONE, NONE, NONE, 505, 2);
    }

    private static void itWaitsOnceTheWayIsLost() {
        doc("if SOON is none: it waits");
        CarrierNet x = new CarrierNet();
        line(x, terms(2, 1, 5, 1), 0, 1, 1);
        line(x, terms(4, 1, 5, 1), 1, 2, 1);
        line(x, terms(EVERY_DAY, 1, 5, 1), 0, 5, 1);
        x.parcel(0, 2, 1);
        x.tick(1);
        waits(x, 0, 0, 0);
        yes("the cart from place 1 on goes no more", x.change(1, 0, 5, 1));
        x.tick(200);
        waits(x, 0, 0, 0);
        yes("it goes again", x.change(1, 4, 5, 1));
        x.tick(159);
        waits(x, 0, 0, 0);
        x.tick(1);
        state(x, 0, NONE, 0, 15, 362, NONE, 1);
    }

    /** Two carts from place 0 at hours 2 and 3 of each day; from place 1 none goes on until hour 672. */
    private static CarrierNet longHopeless(int offset) {
        CarrierNet x = new CarrierNet();
        line(x, terms(EVERY_DAY, 2, 5, 1), 0, 1, 1);
        line(x, terms(1, 0, 5, 1), 1, 2, offset);
        line(x, terms(EVERY_DAY, 3, 5, 1), 0, 1, 1);
        x.snow(1, 7);
        x.snow(1, 14);
        x.snow(1, 21);
        x.parcel(0, 2, 1);
        return x;
    }

    private static void itGoesInTheFirstHourInWhichSoonIsNotNone() {
        doc("(if SOON is none: it waits)");
        // It comes at 673, 674, 675: 336 hours ahead of that no cart, cart 0, cart 2 is at place 0.
        int[] carts = {0, 0, 2};
        for (int offset = 1; offset <= 3; offset++) {
            CarrierNet x = longHopeless(offset);
            x.tick(335 + offset);
            x.parcel(0, 2, 1);
            due("none, or as far as can be", 672 + offset, x.soon(0, 336 + offset, 2));
            due("none an hour earlier", NONE, x.soon(0, 335 + offset, 2));
            waits(x, 0, 0, 0);
            x.tick(offset == 1 ? 2 : 1);
            int leaves = offset == 3 ? 340 : 339;
            state(x, 0, NONE, carts[offset - 1], 14, leaves, NONE, 1);
            state(x, 1, NONE, carts[offset - 1], 14, leaves, NONE, 1);
            x.tick(400);
            state(x, 0, 2, NONE, NONE, NONE, 672 + offset, 2);
        }
    }

    private static void ofTwoCartsInThatHourItTakesTheOneThatIsInTime() {
        doc("(if SOON is none: it waits)");
        CarrierNet x = new CarrierNet();
        line(x, terms(EVERY_DAY, 2, 5, 1), 0, 5, 1);
        line(x, terms(EVERY_DAY, 2, 5, 1), 0, 1, 1);
        line(x, terms(1, 0, 5, 1), 1, 2, 2);
        x.snow(2, 7);
        x.snow(2, 14);
        x.snow(2, 21);
        x.parcel(0, 2, 1);
        x.tick(337);
        waits(x, 0, 0, 0);
        x.tick(1);
        state(x, 0, NONE, 1, 14, 339, NONE, 1);
    }

    private static void aWayThatIsLostIsNotTakenOnceThereIsHopeAgain() {
        doc("the first one with a later STOP from which SOON to where it goes, at the HOUR it stops there, is SOON from "
            + "here NOW");
        CarrierNet x = new CarrierNet();
        line(x, terms(EVERY_DAY, 5, 5, 1), 0, 5, 1);
        line(x, terms(2, 6, 5, 1), 0, 8, 1);
        line(x, terms(1, 0, 5, 1), 8, 2, 1);
        line(x, terms(64, 0, 5, 1), 0, 7, 1);
        line(x, terms(1, 0, 5, 1), 7, 2, 1);
        int[][] snow = {{1, 1}, {2, 7}, {4, 7}, {4, 14}};
        for (int[] s : snow) {
            yes("snow", x.snow(s[0], s[1]));
        }
        x.parcel(0, 2, 1);
        x.tick(6);
        due("by places 0 and 8", 337, x.soon(0, 6, 2));
        yes("none goes on from place 8", x.change(2, 0, 5, 1));
        due("by place 7, too far", NONE, x.soon(0, 168, 2));
        due("by place 7", 505, x.soon(0, 169, 2));
        x.tick(192);
        waits(x, 0, 0, 0);
        x.tick(114);
        state(x, 0, NONE, 3, 13, 313, NONE, 1);
        x.tick(193);
        state(x, 0, 2, NONE, NONE, NONE, 505, 2);
    }

    private static void itLooksAgainInTheHourBehindTheOneThatItMissed() {
        doc("is SOON from here NOW");
        // Cart 0 has it look at hour 3; parcel 0 takes the room of cart 1 at hour 5; cart 2 goes at hour 6.
        CarrierNet x = new CarrierNet();
        line(x, terms(EVERY_DAY, 3, 9, 1), 0, 5, 1);
        line(x, terms(EVERY_DAY, 5, 1, 1), 0, 1, 1);
        line(x, terms(EVERY_DAY, 6, 1, 1), 0, 1, 1);
        x.parcel(0, 1, 1);
        x.parcel(0, 1, 1);
        x.tick(5);
        state(x, 0, NONE, 1, 0, 6, NONE, 1);
        waits(x, 1, 0, 0);
        x.tick(1);
        state(x, 1, NONE, 2, 0, 7, NONE, 1);
    }

    private static void itLooksAgainWhereTheRoomIsTaken() {
        doc("and have ROOM for its size");
        // Hopeless at first; then cart 1 goes each week, but parcel 0 takes its room.
        CarrierNet x = new CarrierNet();
        line(x, terms(EVERY_DAY, 5, 9, 1), 0, 5, 1);
        line(x, terms(0, 6, 5, 1), 0, 2, 1);
        x.parcel(0, 2, 5);
        x.parcel(0, 2, 5);
        x.tick(20);
        waits(x, 1, 0, 0);
        yes("it goes", x.change(1, 2, 5, 1));
        x.tick(10);
        state(x, 0, NONE, 1, 1, 31, NONE, 1);
        waits(x, 1, 0, 0);
        x.tick(167);
        waits(x, 1, 0, 0);
        x.tick(1);
        state(x, 1, NONE, 1, 8, 199, NONE, 1);
    }

    private static void inTimeForOneOfTwoRunsUnderWay() {
        doc("it rides to the last such STOP");
        // Cart 0 takes 30 hours, so two runs of it are under way at once; cart 1 is at place 0 at hours 24 and 30.
        CarrierNet x = new CarrierNet();
        line(x, terms(EVERY_DAY, 0, 5, 1), 0, 1, 30);
        line(x, terms(1, 20, 5, 1), 5, 0, 4, 0, 10);
        x.parcel(5, 1, 1);
        x.tick(20);
        // The next day's run leaves at 48, while the one that comes at 54 is under way.
        state(x, 0, NONE, 1, 0, 24, NONE, 1);
        CarrierNet y = new CarrierNet();
        line(y, terms(EVERY_DAY, 0, 5, 1), 0, 1, 30);
        line(y, terms(1, 20, 5, 1), 5, 0, 4, 0, 52, 0, 53);
        line(y, terms(64, 0, 5, 1), 1, 2, 1);
        y.parcel(5, 2, 1);
        y.tick(20);
        // Cart 2 leaves at 144, so the run of day 4, at hour 96, is the last in time.
        state(y, 0, NONE, 1, 0, 73, NONE, 1);
        y.tick(53);
        waits(y, 0, 0, 1);
        y.tick(23);
        state(y, 0, NONE, 0, 4, 126, NONE, 2);
    }

    private static void snowOnTheDayItWouldRide() {
        doc("SOON from here NOW");
        CarrierNet x = new CarrierNet();
        line(x, terms(EVERY_DAY, 1, 5, 1), 0, 1, 1);
        line(x, terms(EVERY_DAY, 1, 5, 1), 0, 1, 9);
        x.tick(1);
        x.parcel(0, 1, 1);
        yes("snow", x.snow(0, 1));
        x.tick(24);
        state(x, 0, NONE, 1, 1, 34, NONE, 1);
    }

    private static void aChangeWhileItWaits() {
        doc("CARTS, their STOPS, can be told as long as no PARCEL is on a RUN of theirs.");
        CarrierNet x = new CarrierNet();
        line(x, terms(EVERY_DAY, 1, 5, 1), 0, 1, 9);
        x.parcel(0, 1, 6);
        x.tick(24);
        waits(x, 0, 0, 0);
        yes("room for it", x.change(0, EVERY_DAY, 6, 1));
        line(x, terms(2, 1, 6, 1), 0, 1, 8);
        x.tick(1);
        // The new cart comes sooner.
        state(x, 0, NONE, 1, 1, 33, NONE, 1);
    }

    private static void sixtyRideAtOnce() {
        doc("PARCELS (60 at most)");
        CarrierNet x = new CarrierNet();
        line(x, terms(EVERY_DAY, 1, 50, 1), 0, 1, 4);
        line(x, terms(EVERY_DAY, 1, 10, 20), 0, 1, 4);
        for (int i = 0; i < 60; i++) {
            x.parcel(0, 1, 1);
        }
        x.tick(1);
        due("all", 60, x.count(4));
        due("full", 0, x.room(0, 0));
        due("full", 0, x.room(1, 0));
        state(x, 49, NONE, 0, 0, 5, NONE, 1);
        state(x, 50, NONE, 1, 0, 5, NONE, 1);
        due("nobody", 0, x.waiting(0));
        x.tick(4);
        due("all", 60, x.count(3));
        due("none", 0, x.count(4));
        due("fares", 250, x.count(6));
        due("whole", 50, x.room(0, 0));
    }

    // ---- promise 12 ----

    private static void toldOfAParcelAtEachOfItsStates() {
        doc("0 where it goes, 1 size, 2 the PLACE it is at (NONE: on a RUN), 3 the CART it is on (NONE),");
        CarrierNet x = new CarrierNet();
        line(x, terms(EVERY_DAY, 1, 5, 1), 0, 11, 4);
        line(x, terms(EVERY_DAY, 7, 5, 1), 11, 3, 4);
        x.parcel(0, 3, 5);
        waits(x, 0, 0, 0);
        x.tick(1);
        state(x, 0, NONE, 0, 0, 5, NONE, 1);
        x.tick(4);
        waits(x, 0, 11, 1);
        x.tick(2);
        state(x, 0, NONE, 1, 0, 11, NONE, 2);
        x.tick(4);
        state(x, 0, 3, NONE, NONE, NONE, 11, 2);
        due("where it goes", 3, told(x, 0, 0));
        due("size", 5, told(x, 0, 1));
    }

    private static void toldOfNoSuchParcelThrows() {
        doc("NoSuchElementException: no such PARCEL, what.");
        Story two = x -> {
            x.parcel(0, 1, 1);
            x.parcel(0, 1, 1);
        };
        refused("parcel 2", THROWN, two, "told", 2, 0);
        refused("parcel -1", THROWN, two, "told", -1, 0);
        refused("what 8", THROWN, two, "told", 1, 8);
        refused("what -1", THROWN, two, "told", 1, -1);
        refused("neither", THROWN, two, "told", 60, 8);
        refused("far away", THROWN, two, "told", HIGH, 0);
        refused("far away", THROWN, two, "told", LOW, 0);
        due("parcel 1, what 7", 0, told(after(two), 1, 7));
    }

    private static void toldOfARunOfThatHourAndDay() {
        doc("4 the DAY of that RUN (NONE), 5 the HOUR at which it leaves it (NONE)");
        CarrierNet x = new CarrierNet();
        line(x, terms(1, 23, 5, 1), 0, 1, 30, 2, 60);
        x.parcel(1, 2, 1);
        x.tick(53);
        // It got on on day 2, but the run is day 0's.
        state(x, 0, NONE, 0, 0, 83, NONE, 1);
    }

    // ---- promise 13 ----

    private static void waitingCountsThoseAtTheInn() {
        doc("How many PARCELS are at a PLACE's inn that have not come.");
        CarrierNet x = new CarrierNet();
        line(x, terms(EVERY_DAY, 1, 5, 1), 0, 1, 4);
        line(x, terms(EVERY_DAY, 7, 5, 1), 1, 2, 4);
        x.parcel(0, 1, 1);
        x.parcel(0, 2, 1);
        x.parcel(1, 0, 1);
        int[][] hours = {{0, 2, 1, 0}, {1, 0, 1, 0}, {4, 0, 1, 0}, {5, 0, 2, 0}, {6, 0, 2, 0}, {7, 0, 1, 0},
            {11, 0, 1, 0}};
        for (int[] h : hours) {
            x.tick(h[0] - x.count(0));
            for (int place = 0; place < 3; place++) {
                due("at " + place + ", hour " + h[0], h[place + 1], x.waiting(place));
            }
        }
        due("come", 2, x.count(3));
    }

    public static void main(String[] args) throws ReflectiveOperationException {
        all(ParcelBoundaryTest.class);
    }
}
