/** Boundary sentences of promises 16 to 21 and of the terms behind them, one test each. */
public final class ErrandBoundaryTest extends Checks {
    private static final int FALSE = 0;

    private static void shops(CarrierNet x, int within, int... want) {
        for (int i = 0; i < want.length; i++) {
            due("round(" + within + ", " + i + ")", want[i], x.round(within, i));
        }
        for (int i = want.length; i <= 8; i++) {
            due("behind its end", NONE, x.round(within, i));
        }
        due("how many", want.length, x.best(within, 2));
    }

    private static void allWalks(CarrierNet x, int minutes) {
        for (int one = 0; one <= 8; one++) {
            for (int other = 0; other < one; other++) {
                yes("walk", x.walk(one, other, minutes));
            }
        }
    }

    // ---- promise 16 ----

    private static void walksAre10AtFirst() {
        doc("WALK minutes between any two (0 .. 60, either way alike; 10 at first)");
        for (int shop = 1; shop <= 8; shop++) {
            CarrierNet x = new CarrierNet();
            x.errand(shop, 0, 1);
            due("there and back", 20, x.best(500, 1));
            for (int other = 1; other < shop; other++) {
                CarrierNet y = new CarrierNet();
                y.errand(shop, 0, 1);
                y.errand(other, 0, 1);
                due("by " + other + " and " + shop, 30, y.best(500, 1));
            }
        }
    }

    private static void walksAreAlikeEitherWay() {
        doc("either way alike");
        for (int one = 0; one <= 8; one++) {
            for (int other = 0; other <= 8; other++) {
                if (one == other) {
                    refused("alike", FALSE, x -> { }, "walk", one, one, 5);
                    continue;
                }
                CarrierNet x = new CarrierNet();
                for (int shop = 1; shop <= 8; shop++) {
                    if (shop == one || shop == other) {
                        x.errand(shop, 0, 1);
                    }
                }
                yes("walk", x.walk(one, other, 3));
                due("a round with " + one + " to " + other, one == 0 || other == 0 ? 6 : 23, x.best(500, 1));
                shops(x, 500, one == 0 ? new int[] {other} : other == 0 ? new int[] {one}
                    : new int[] {Math.min(one, other), Math.max(one, other)});
            }
        }
    }

    private static void walks0And60() {
        doc("(0 .. 60, either way alike; 10 at first)");
        CarrierNet x = new CarrierNet();
        x.errand(8, 0, 1);
        yes("60", x.walk(0, 8, 60));
        due("60", 120, x.best(120, 1));
        due("a minute less", 0, x.best(119, 0));
        yes("0", x.walk(8, 0, 0));
        due("0", 0, x.best(0, 1));
        due("worth in no time", 1, x.best(0, 0));
        shops(x, 0, 8);
    }

    private static void walksAreAsToldNotTheShortestWays() {
        doc("goes to some SHOPS of the list, once each");
        CarrierNet x = new CarrierNet();
        x.errand(1, 0, 1);
        x.walk(0, 1, 60);
        x.walk(0, 2, 0);
        x.walk(1, 2, 0);
        due("shop 2 is not on the list", 120, x.best(500, 1));
        shops(x, 500, 1);
        x.errand(2, 0, 0);
        due("once each: not there and back by shop 2", 60, x.best(500, 1));
        shops(x, 500, 1, 2);
    }

    // ---- promise 17 ----

    private static void minutes0And60() {
        doc("for a SHOP minutes there (0 .. 60)");
        CarrierNet x = new CarrierNet();
        yes("60", x.errand(1, 60, 1));
        due("80", 80, x.best(80, 1));
        due("79", 0, x.best(79, 0));
        yes("0", x.errand(1, 0, 1));
        due("20", 20, x.best(20, 1));
        due("19", 0, x.best(19, 0));
    }

    private static void worth0And100() {
        doc("a WORTH (0 .. 100)");
        CarrierNet x = new CarrierNet();
        yes("100", x.errand(1, 0, 100));
        due("100", 100, x.best(20, 0));
        yes("0", x.errand(1, 0, 0));
        due("not worth the walk", 0, x.best(20, 1));
        shops(x, 20);
        for (int shop = 1; shop <= 8; shop++) {
            yes("100", x.errand(shop, 0, 100));
        }
        due("all eight", 800, x.best(500, 0));
        due("90 minutes", 90, x.best(500, 1));
    }

    private static void toldAgainItIsThat() {
        doc("of the list, told again: that.");
        CarrierNet x = new CarrierNet();
        x.errand(4, 30, 50);
        due("first", 50, x.best(500, 0));
        x.errand(4, 10, 7);
        due("one shop", 1, x.count(7));
        due("worth", 7, x.best(500, 0));
        due("minutes", 30, x.best(500, 1));
        shops(x, 500, 4);
        Story story = y -> y.errand(4, 30, 50);
        refused("worth", FALSE, story, "errand", 4, 10, 101);
        refused("minutes", FALSE, story, "errand", 4, 61, 7);
        refused("the inn", FALSE, story, "errand", 0, 10, 7);
        refused("no shop", FALSE, story, "errand", 9, 10, 7);
    }

    private static void theListIsFullWithEight() {
        doc("SHOPS 1 .. 8 (0 is the inn)");
        CarrierNet x = new CarrierNet();
        for (int shop = 1; shop <= 8; shop++) {
            due("so many", shop - 1, x.count(7));
            yes("errand", x.errand(shop, shop, 10));
            yes("again", x.errand(shop, shop, 10));
        }
        due("eight", 8, x.count(7));
        due("worth", 80, x.best(126, 0));
        due("minutes", 126, x.best(126, 1));
        shops(x, 126, 1, 2, 3, 4, 5, 6, 7, 8);
        due("a minute less: without the longest", 70, x.best(125, 0));
        due("a minute less: the fewest minutes", 108, x.best(125, 1));
        shops(x, 125, 1, 2, 3, 4, 5, 6, 7);
    }

    // ---- promise 18 ----

    private static void clearedTheListIsEmpty() {
        doc("The list is empty.");
        CarrierNet x = new CarrierNet();
        x.clear();
        due("empty", 0, x.count(7));
        allWalks(x, 2);
        for (int shop = 1; shop <= 8; shop++) {
            x.errand(shop, 1, 1);
        }
        due("eight", 8, x.best(500, 0));
        x.clear();
        x.clear();
        due("empty", 0, x.count(7));
        for (int what = 0; what < 3; what++) {
            due("nothing", 0, x.best(500, what));
        }
        shops(x, 500);
        x.errand(3, 1, 1);
        due("one", 1, x.count(7));
        due("walks stay", 5, x.best(500, 1));
        shops(x, 500, 3);
    }

    // ---- promise 19 ----

    private static void noListNoRound() {
        doc("A ROUND begins and ends at the inn, goes to some SHOPS of the list, once each.");
        CarrierNet x = new CarrierNet();
        for (int within : new int[] {0, 1, 500}) {
            for (int what = 0; what < 3; what++) {
                due("nothing", 0, x.best(within, what));
            }
            shops(x, within);
        }
    }

    private static void noMoreMinutesThanWithin() {
        doc("of all ROUNDS that take (WALKS and minutes there) no more");
        CarrierNet x = new CarrierNet();
        x.errand(1, 5, 10);
        x.errand(2, 6, 20);
        x.errand(3, 30, 3);
        int[][] rounds = {{0, 0, 0}, {24, 0, 0}, {25, 10, 25}, {26, 20, 26}, {40, 20, 26}, {41, 30, 41},
            {80, 30, 41}, {81, 33, 81}, {500, 33, 81}};
        for (int[] r : rounds) {
            due("worth within " + r[0], r[1], x.best(r[0], 0));
            due("minutes within " + r[0], r[2], x.best(r[0], 1));
        }
    }

    private static void within0And500() {
        doc("BEST within so many minutes (0 .. 500)");
        CarrierNet x = new CarrierNet();
        allWalks(x, 60);
        for (int shop = 1; shop <= 4; shop++) {
            x.errand(shop, 50, 1);
        }
        due("four take 500", 4, x.best(500, 0));
        due("500", 500, x.best(500, 1));
        due("499", 3, x.best(499, 0));
        due("three take 390", 390, x.best(499, 1));
        due("0", 0, x.best(0, 0));
        Story story = y -> y.errand(1, 0, 1);
        refused("501", NONE, story, "best", 501, 0);
        refused("-1", NONE, story, "best", -1, 0);
        refused("what 3", NONE, story, "best", 500, 3);
        refused("what -1", NONE, story, "best", 500, -1);
        refused("501", NONE, story, "round", 501, 0);
        refused("-1", NONE, story, "round", -1, 0);
        allWalks(x, 0);
        x.clear();
        x.errand(5, 0, 1);
        due("0 is enough", 1, x.best(0, 0));
        shops(x, 0, 5);
    }

    private static void theGreatestWorthIsFirst() {
        doc("one of the greatest sum of WORTH");
        CarrierNet x = new CarrierNet();
        x.errand(1, 0, 50);
        x.errand(2, 0, 50);
        x.errand(3, 60, 99);
        shops(x, 29, 1);
        shops(x, 30, 1, 2);
        shops(x, 80, 1, 2);
        x.errand(3, 60, 100);
        // Alike in worth, but it takes more minutes.
        shops(x, 80, 1, 2);
        x.errand(2, 0, 49);
        shops(x, 79, 1, 2);
        shops(x, 80, 3);
    }

    private static void thenTheFewestMinutes() {
        doc("of these of the fewest minutes");
        CarrierNet x = new CarrierNet();
        x.errand(1, 1, 7);
        x.errand(2, 0, 7);
        x.errand(3, 0, 0);
        due("the second takes less", 20, x.best(21, 1));
        shops(x, 21, 2);
        due("19", 0, x.best(19, 0));
        x.errand(1, 0, 7);
        shops(x, 21, 1);
    }

    private static void thenTheLowerShopWhereTheyFirstDiffer() {
        doc("of these the one that has the lower SHOP where they first differ");
        CarrierNet x = new CarrierNet();
        x.errand(3, 0, 1);
        x.errand(5, 0, 1);
        x.errand(8, 0, 1);
        shops(x, 20, 3);
        shops(x, 30, 3, 5);
        shops(x, 40, 3, 5, 8);
        x.walk(3, 5, 11);
        shops(x, 40, 3, 8, 5);
        shops(x, 30, 3, 8);
        x.walk(0, 3, 11);
        // All three take 41 minutes as 3 8 5, 5 3 8, 5 8 3 or 8 3 5.
        shops(x, 30, 5, 8);
        due("41", 41, x.best(500, 1));
        shops(x, 500, 3, 8, 5);
    }

    private static void oneThatIsOverIsAhead() {
        doc("(one that is over is ahead of one that goes on)");
        CarrierNet x = new CarrierNet();
        allWalks(x, 0);
        x.errand(1, 0, 0);
        x.errand(8, 0, 0);
        shops(x, 500);
        x.errand(4, 0, 1);
        // 1, 4 is ahead of 4; it is over, so it is ahead of 1, 4, 8 too.
        shops(x, 500, 1, 4);
        x.errand(2, 0, 0);
        shops(x, 500, 1, 2, 4);
        x.errand(1, 1, 0);
        shops(x, 500, 2, 4);
        x.errand(2, 1, 0);
        shops(x, 500, 4);
    }

    private static void anErrandOrAWalkToldLaterCounts() {
        doc("BEST within so many minutes");
        CarrierNet x = new CarrierNet();
        x.errand(1, 0, 1);
        shops(x, 60, 1);
        x.errand(2, 0, 1);
        shops(x, 60, 1, 2);
        x.walk(1, 2, 60);
        shops(x, 60, 1);
        shops(x, 80, 1, 2);
        x.walk(2, 1, 0);
        shops(x, 60, 1, 2);
        x.errand(1, 60, 1);
        shops(x, 60, 2);
        x.clear();
        shops(x, 60);
    }

    // ---- promise 20 ----

    private static void shopsOfTheRoundFrom0On() {
        doc("SHOP i of it (from 0 on). NONE without, out of bounds.");
        Story eight = x -> {
            for (int shop = 1; shop <= 8; shop++) {
                x.errand(shop, 0, 1);
            }
        };
        CarrierNet x = after(eight);
        shops(x, 90, 1, 2, 3, 4, 5, 6, 7, 8);
        refused("8", NONE, eight, "round", 90, 8);
        refused("9", NONE, eight, "round", 90, 9);
        refused("-1", NONE, eight, "round", 90, -1);
        refused("far", NONE, eight, "round", 90, HIGH);
        refused("far", NONE, eight, "round", 90, LOW);
        refused("behind the last", NONE, eight, "round", 89, 7);
        due("the last", 7, x.round(89, 6));
        refused("no round", NONE, eight, "round", 19, 0);
    }

    private static void askedInTurnForOtherMinutes() {
        doc("SHOP i of it (from 0 on).");
        CarrierNet x = new CarrierNet();
        x.errand(1, 5, 10);
        x.errand(2, 6, 20);
        for (int turn = 0; turn < 2; turn++) {
            shops(x, 25, 1);
            shops(x, 26, 2);
            shops(x, 41, 1, 2);
            shops(x, 0);
        }
        due("out of bounds", NONE, x.round(501, 0));
        due("as before", 1, x.round(41, 0));
    }

    // ---- promise 21 ----

    private static void countsFromEmptyToFull() {
        doc("0 NOW, 1 CARTS, 2 PARCELS, 3 that have come, 4 on RUNS, 5 days of SNOW told, 6 FARES in all,");
        CarrierNet x = new CarrierNet();
        for (int i = 0; i < 12; i++) {
            due("carts", i, x.count(1));
            line(x, terms(EVERY_DAY, 1, 50, 20), i, (i + 1) % 12, 2);
        }
        for (int i = 0; i < 60; i++) {
            due("parcels", i, x.count(2));
            x.parcel(i % 12, (i + 1) % 12, 10);
        }
        for (int i = 0; i < 100; i++) {
            due("snow", i, x.count(5));
            yes("snow", x.snow(i % 12, 5 + i));
        }
        x.tick(1);
        int[] first = {1, 12, 60, 0, 60, 100, 0, 0};
        for (int what = 0; what < 8; what++) {
            due("count " + what, first[what], x.count(what));
        }
        x.tick(2);
        int[] then = {3, 12, 60, 60, 0, 100, 60 * 200, 0};
        for (int what = 0; what < 8; what++) {
            due("count " + what, then[what], x.count(what));
        }
    }

    private static void countOfOthersIsNone() {
        doc("7 SHOPS of the list. NONE for others.");
        for (int what : new int[] {-1, 8, 9, HIGH, LOW}) {
            refused("no such", NONE, x -> x.errand(1, 1, 1), "count", what);
        }
    }

    private static void theConstant() {
        doc("`NONE = -1`: None; refused.");
        due("NONE", -1, CarrierNet.NONE);
    }

    public static void main(String[] args) throws ReflectiveOperationException {
        all(ErrandBoundaryTest.class);
    }
}
