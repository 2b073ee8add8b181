/** Boundary sentences of promises 7 to 9 and of the terms behind them, one test each. */
public final class SoonBoundaryTest extends Checks {
    private static final int ALL_PLACES = 4095;

    // ---- promise 7 ----

    /** Hours 8, 11 and 14 of every day. */
    private static void threeStops(CarrierNet x) {
        line(x, terms(EVERY_DAY, 8, 5, 1), 0, 1, 3, 2, 6);
    }

    private static void aRideGoesToALaterStop() {
        doc("A RIDE: from a STOP of a RUN to a later one of it.");
        CarrierNet x = after(SoonBoundaryTest::threeStops);
        due("the next", 11, x.soon(0, 8, 1));
        due("the last", 14, x.soon(0, 8, 2));
        due("from the middle", 14, x.soon(1, 11, 2));
        due("not back", NONE, x.soon(1, 0, 0));
        due("not from the last", NONE, x.soon(2, 0, 0));
        due("not from the last", NONE, x.soon(2, 0, 1));
    }

    private static void aRideLeavesAtThatHourOrLater() {
        doc("can begin a RIDE that leaves there at that HOUR or later");
        CarrierNet x = after(SoonBoundaryTest::threeStops);
        due("an hour ahead", 11, x.soon(0, 7, 1));
        due("that hour", 11, x.soon(0, 8, 1));
        due("an hour late", 35, x.soon(0, 9, 1));
        due("in the middle, that hour", 14, x.soon(1, 11, 2));
        due("in the middle, an hour late", 38, x.soon(1, 12, 2));
    }

    private static void oneIsThereFromTheHourOnAtWhichItComes() {
        doc("is at the other PLACE from the HOUR on at which that comes");
        for (int order = 0; order < 2; order++) {
            for (int leaves = 10; leaves <= 12; leaves++) {
                CarrierNet x = new CarrierNet();
                if (order == 1) {
                    line(x, terms(EVERY_DAY, leaves, 5, 1), 1, 3, 1);
                }
                threeStops(x);
                if (order == 0) {
                    line(x, terms(EVERY_DAY, leaves, 5, 1), 1, 3, 1);
                }
                due("leaves at " + leaves, leaves < 11 ? 24 + leaves + 1 : leaves + 1, x.soon(0, 0, 3));
            }
        }
    }

    private static void ridesOneBehindTheOther() {
        doc("the least HOUR from which on one can be there by RIDES, one behind the other");
        CarrierNet x = new CarrierNet();
        for (int i = 10; i >= 0; i--) {
            line(x, terms(EVERY_DAY, i, 5, 1), i, i + 1, 1);
        }
        due("eleven rides, each an hour", 11, x.soon(0, 0, 11));
        due("an hour late", 35, x.soon(0, 1, 11));
        due("all", ALL_PLACES, x.reach(0, 0, 11));
        due("all but the last", ALL_PLACES >> 1, x.reach(0, 0, 10));
        due("the first place alone needs the first ride", 1, x.cut(10, 0, 11));
        due("all need the last ride", ALL_PLACES >> 1, x.cut(0, 0, 11));
    }

    private static void theLeastHourNotTheFirstToLeave() {
        doc("the least HOUR from which on one can be there by RIDES");
        CarrierNet x = new CarrierNet();
        line(x, terms(EVERY_DAY, 1, 5, 1), 0, 1, 20);
        line(x, terms(EVERY_DAY, 15, 5, 1), 0, 2, 2, 1, 5);
        due("the later one is sooner", 20, x.soon(0, 0, 1));
        due("a ride to elsewhere and on", 20, x.soon(0, 15, 1));
        due("tomorrow's, again by the later one", 44, x.soon(0, 16, 1));
    }

    private static void theSamePlaceIsTheHourItself() {
        doc("(t, for the same PLACE)");
        CarrierNet x = new CarrierNet();
        line(x, terms(EVERY_DAY, 0, 5, 1), 0, 1, 1, 0, 2);
        for (int hour : new int[] {0, 1, 2, 5000, 5999, 6000}) {
            for (int place = 0; place < 12; place++) {
                due("there already", hour, x.soon(place, hour, place));
            }
        }
        refused("no such hour", NONE, y -> { }, "soon", 3, 6001, 3);
        refused("no such hour", NONE, y -> { }, "soon", 3, -1, 3);
        refused("no such place", NONE, y -> { }, "soon", 12, 0, 12);
        refused("no such place", NONE, y -> { }, "soon", -1, 0, -1);
    }

    /** Once, on day 13, it leaves place 0 at hour 334 (and again weeks later). */
    private static CarrierNet dayThirteen(int offset) {
        CarrierNet x = new CarrierNet();
        line(x, terms(64, 22, 5, 1), 0, 1, offset);
        x.snow(0, 6);
        return x;
    }

    private static void soonIs336HoursBehindAtMost() {
        doc("t and 336 at most; else none");
        due("336 exactly", 336, dayThirteen(2).soon(0, 0, 1));
        due("337", NONE, dayThirteen(3).soon(0, 0, 1));
        due("336 exactly", 337, dayThirteen(3).soon(0, 1, 1));
        due("394 by a ride of 60 hours", NONE, dayThirteen(60).soon(0, 57, 1));
        due("336 exactly by a ride of 60 hours", 394, dayThirteen(60).soon(0, 58, 1));
        due("reach by then", 3, dayThirteen(2).reach(0, 0, 336));
        due("reach an hour ahead", 1, dayThirteen(2).reach(0, 0, 335));
    }

    private static void soonIs336HoursBehindOverAllRides() {
        doc("t and 336 at most; else none");
        CarrierNet x = dayThirteen(1);
        line(x, terms(64, 23, 5, 1), 1, 2, 1);
        line(x, terms(1, 0, 5, 1), 2, 3, 1);
        x.snow(1, 6);
        x.snow(2, 7);
        due("335", 335, x.soon(0, 0, 1));
        due("336", 336, x.soon(0, 0, 2));
        due("337", NONE, x.soon(0, 0, 3));
        due("336 behind 1", 337, x.soon(0, 1, 3));
        due("all three cut nobody off by 337", 0, x.cut(2, 0, 3) & 1);
        due("an hour later they do", 1, x.cut(2, 1, 3) & 1);
    }

    private static void theLastHourAskedLooksAsFar() {
        doc("SOON from a PLACE at an HOUR (0 .. 6,000).");
        for (int offset = 1; offset <= 2; offset++) {
            CarrierNet x = new CarrierNet();
            line(x, terms(16, 23, 5, 1), 0, 1, offset);
            yes("snow", x.snow(0, 256));
            // Day 249's run leaves at 5999, day 263's at 6335.
            due("day 249's", 5999 + offset, x.soon(0, 5999, 1));
            due("day 263's", offset == 1 ? 6336 : NONE, x.soon(0, 6000, 1));
            due("cut off", offset == 1 ? 1 : 0, x.cut(0, 6000, 1));
        }
    }

    private static void hoursAheadOfNowAreHoursToo() {
        doc("SOON from a PLACE at an HOUR (0 .. 6,000).");
        CarrierNet x = after(SoonBoundaryTest::threeStops);
        x.tick(500);
        due("long ago", 11, x.soon(0, 0, 1));
        due("long ago", 3, x.reach(0, 0, 11));
        due("long ago", 3, x.cut(0, 0, 2));
    }

    private static void soonDoesNotLookAtRoom() {
        doc("One who is at a PLACE from an HOUR on can begin a RIDE");
        CarrierNet x = new CarrierNet();
        line(x, terms(EVERY_DAY, 8, 0, 1), 0, 1, 3);
        due("no room, but a ride", 11, x.soon(0, 0, 1));
        due("no room, but a ride", 3, x.reach(0, 0, 11));
        due("no room, but a ride", 1, x.cut(0, 0, 1));
    }

    private static void aRunGoesOverMidnights() {
        doc("it stops at the STOPS' PLACES at the HOURS 24 d and HOUR and OFFSET");
        CarrierNet x = new CarrierNet();
        line(x, terms(64, 23, 5, 1), 0, 1, 1, 2, 25, 3, 49, 4, 60);
        int[][] hours = {{1, 168}, {2, 192}, {3, 216}, {4, 227}};
        for (int[] h : hours) {
            due("place " + h[0], h[1], x.soon(0, 0, h[0]));
            due("from the place ahead", h[1], x.soon(h[0] - 1, 160, h[0]));
            due("at the last hour", h[1], x.soon(0, 167, h[0]));
        }
        due("got on in another week", 227, x.soon(3, 216, 4));
        due("missed until the next week", 395, x.soon(3, 217, 4));
    }

    private static void runsOfOneCartMeet() {
        doc("A RUN of a CART: on each DAY d");
        CarrierNet x = new CarrierNet();
        line(x, terms(EVERY_DAY, 0, 5, 1), 0, 0, 24, 0, 48, 1, 60);
        due("day 0's run alone", 60, x.soon(0, 0, 1));
        due("day 0's run at its second stop", 60, x.soon(0, 24, 1));
        due("day 0's run at its third", 60, x.soon(0, 48, 1));
        due("day 1's run at its third", 84, x.soon(0, 49, 1));
    }

    private static void oneIsOnNoLaterRunOfTheCart() {
        doc("A RIDE: from a STOP of a RUN to a later one of it.");
        CarrierNet x = after(SoonBoundaryTest::threeStops);
        line(x, terms(64, 20, 5, 1), 2, 0, 1);
        // Only the weekly cart brings back to place 0, however often the daily one has begun there.
        due("who rode with the daily one", 165, x.soon(1, 0, 0));
        due("who stands where it ends", 165, x.soon(2, 0, 0));
        due("not by the hour ahead", 6, x.reach(1, 0, 164));
        due("by then", 7, x.reach(1, 0, 165));
        due("from the last place, not by the hour ahead", 4, x.reach(2, 0, 164));
    }

    // ---- promise 8 ----

    private static void reachByTheVeryHour() {
        doc("The PLACES that one can be at by an HOUR");
        CarrierNet x = after(SoonBoundaryTest::threeStops);
        int[][] hours = {{0, 1}, {8, 1}, {10, 1}, {11, 3}, {13, 3}, {14, 7}, {15, 7}, {336, 7}};
        for (int[] h : hours) {
            due("by " + h[0], h[1], x.reach(0, 0, h[0]));
        }
        due("left that hour", 3, x.reach(0, 8, 11));
        due("missed", 1, x.reach(0, 9, 34));
        due("the next day", 3, x.reach(0, 9, 35));
        due("from the last place", 4, x.reach(2, 0, 336));
    }

    private static void reachRefusesTheLastAheadOfTheFirst() {
        doc("NONE: no such ones, the last ahead of the first.");
        Story story = SoonBoundaryTest::threeStops;
        refused("one ahead", NONE, story, "reach", 0, 11, 10);
        refused("far ahead", NONE, story, "reach", 0, 6000, 0);
        due("alike", 1, after(story).reach(0, 11, 11));
        due("both 0", 1 << 11, after(story).reach(11, 0, 0));
        due("both 6000", 1 << 11, after(story).reach(11, 6000, 6000));
    }

    private static void reachIs336BehindAtMost() {
        doc("(0 .. 6,000 both; 336 behind at most)");
        Story story = SoonBoundaryTest::threeStops;
        for (int hour : new int[] {0, 9, 5663}) {
            due("336", 7, after(story).reach(0, hour, hour + 336));
            refused("337", NONE, story, "reach", 0, hour, hour + 337);
        }
        due("336, the last", 7, after(story).reach(0, 5664, 6000));
        refused("337, the last", NONE, story, "reach", 0, 5664, 6001);
        refused("0 to 6000", NONE, story, "reach", 0, 0, 6000);
    }

    // ---- promise 9 ----

    private static void cutNeverTellsThePlaceItself() {
        doc("PLACES from which one can be at a PLACE, from an HOUR on, but could not without a CART, as bits.");
        CarrierNet x = new CarrierNet();
        line(x, terms(EVERY_DAY, 0, 5, 1), 0, 1, 1, 0, 2);
        due("0 is there already", 2, x.cut(0, 0, 0));
        due("1 is there already", 1, x.cut(0, 0, 1));
        due("nobody", 0, x.cut(0, 0, 2));
    }

    private static void cutTellsAllTheOthers() {
        doc("but could not without a CART, as bits.");
        CarrierNet x = new CarrierNet();
        for (int i = 1; i < 11; i++) {
            line(x, terms(EVERY_DAY, i, 5, 1), i, 0, 1);
        }
        line(x, terms(EVERY_DAY, 20, 5, 1), 0, 11, 1);
        due("all but 11", ALL_PLACES >> 1, x.cut(10, 0, 11));
        due("its own alone", 2, x.cut(0, 0, 11));
        due("its own alone", 1 << 10, x.cut(9, 0, 0));
        due("nobody", 0, x.cut(10, 0, 0));
    }

    private static void aCartThatNeverGoesCutsNobodyOff() {
        doc("but could not without a CART");
        CarrierNet x = new CarrierNet();
        line(x, terms(0, 0, 5, 1), 0, 1, 1);
        due("no weekday", 0, x.cut(0, 0, 1));
        yes("change", x.change(0, 1, 5, 1));
        due("weekday 0", 1, x.cut(0, 0, 1));
    }

    private static void cutWithin336Hours() {
        doc("PLACES from which one can be at a PLACE, from an HOUR on");
        CarrierNet x = dayThirteen(2);
        line(x, terms(64, 22, 5, 1), 0, 1, 3);
        x.snow(1, 6);
        due("the other is at 337", 1, x.cut(0, 0, 1));
        due("an hour later both are in time", 0, x.cut(0, 1, 1));
        due("the other is not needed", 0, x.cut(1, 0, 1));
        due("the last that both leave at", 0, x.cut(0, 334, 1));
        due("neither, until day 20's", 0, x.cut(0, 335, 1));
    }

    private static void cutFromTheVeryHour() {
        doc("PLACES from which one can be at a PLACE, from an HOUR on");
        CarrierNet x = new CarrierNet();
        line(x, terms(1, 5, 5, 1), 0, 1, 1);
        x.snow(0, 7);
        x.snow(0, 14);
        due("that hour", 1, x.cut(0, 5, 1));
        due("missed", 0, x.cut(0, 6, 1));
    }

    private static void cutAsksNothingOfTheNet() {
        doc("PLACES from which one can be at a PLACE");
        Story story = x -> {
            threeStops(x);
            x.parcel(0, 2, 1);
            x.tick(9);
        };
        String difference = Twins.difference(story, "cut", 0, 0, 2);
        if (difference != null) {
            fault("changed something: " + difference);
        }
    }

    public static void main(String[] args) throws ReflectiveOperationException {
        all(SoonBoundaryTest.class);
    }
}
