/** Each argument of each call: the last values that are taken, and the first ones that are refused on either side. */
public final class BoundsTest extends Checks {
    private static final int FALSE = 0;

    /** A call, all but one of whose arguments are ordinary. */
    private static final class Row {
        final Story story;
        final String name;
        final int refusal;
        final int[] arguments;

        Row(Story story, String name, int refusal, int... arguments) {
            this.story = story;
            this.name = name;
            this.refusal = refusal;
            this.arguments = arguments;
        }

        /** The argument at a position goes from least to most, where the call answers as given. */
        Row bounds(int position, int least, int most, int atLeast, int atMost) {
            taken(position, least, atLeast);
            taken(position, most, atMost);
            if (least > LOW) {
                beyond(position, least - 1);
                beyond(position, LOW);
            }
            if (most < HIGH) {
                beyond(position, most + 1);
                beyond(position, HIGH);
            }
            return this;
        }

        private int[] with(int position, int value) {
            int[] given = arguments.clone();
            given[position] = value;
            return given;
        }

        private void taken(int position, int value, int answer) {
            int[] given = with(position, value);
            due("taken, " + Twins.written(name, given), answer, Twins.ask(after(story), name, given));
        }

        private void beyond(int position, int value) {
            refused("out of bounds", refusal, story, name, with(position, value));
        }
    }

    /** Four carts, four parcels at inns (none on a cart yet), two errands, hour 0. */
    private static void resting(CarrierNet x) {
        line(x, terms(EVERY_DAY, 1, 10, 2), 0, 1, 10, 2, 20);
        line(x, terms(EVERY_DAY, 5, 10, 3), 2, 3, 30);
        line(x, terms(1, 0, 7, 1), 4, 5, 3);
        line(x, terms(EVERY_DAY, 3, 5, 1), 11, 0, 2);
        x.parcel(0, 2, 4);
        x.parcel(2, 3, 5);
        x.parcel(3, 0, 1);
        x.errand(2, 5, 9);
        x.errand(5, 7, 20);
        x.walk(0, 5, 3);
        x.snow(1, 9);
    }

    /** The same at hour 30 of day 1: parcel 0 has come, 1 is on cart 1, 3 on cart 0; 2 waits. */
    private static void busy(CarrierNet x) {
        resting(x);
        x.tick(24);
        x.parcel(0, 1, 3);
        x.tick(6);
    }

    private static void late(CarrierNet x) {
        busy(x);
        for (int i = 0; i < 9; i++) {
            x.tick(500);
        }
        x.tick(460);
    }

    private static void carts() {
        doc("out of bounds (weekdays 0 .. 127)");
        new Row(BoundsTest::busy, "cart", NONE, 127, 8, 10, 2, 0)
            .bounds(0, 0, 127, 4, 4).bounds(1, 0, 23, 4, 4).bounds(2, 0, 50, 4, 4)
            .bounds(3, 0, 20, 4, 4).bounds(4, 0, 11, 4, 4);
        doc("NONE: no such CART, PLACE, OFFSET;");
        new Row(BoundsTest::resting, "stop", NONE, 1, 6, 50)
            .bounds(0, 0, 3, 4, 3).bounds(1, 0, 11, 3, 3).bounds(2, 31, 60, 3, 3);
        doc("False: no such one, out of bounds, a PARCEL is on it.");
        new Row(BoundsTest::resting, "change", FALSE, 1, 3, 4, 5)
            .bounds(0, 0, 3, 1, 1).bounds(1, 0, 127, 1, 1).bounds(2, 0, 50, 1, 1).bounds(3, 0, 20, 1, 1);
        doc("False: no such CART, the DAY is not behind that of NOW, above 300, told already; 100 were.");
        new Row(BoundsTest::busy, "snow", FALSE, 0, 40)
            .bounds(0, 0, 3, 1, 1).bounds(1, 2, 300, 1, 1);
        doc("Whether a CART has a RUN on a DAY (0 .. 300) (1, 0). NONE: no such ones.");
        new Row(BoundsTest::busy, "runs", NONE, 2, 7).bounds(0, 0, 3, 1, 1).bounds(1, 0, 300, 1, 0);
        doc("FARES of a CART. NONE: no such one.");
        new Row(BoundsTest::busy, "fares", NONE, 0).bounds(0, 0, 3, 8, 0);
        doc("ROOM left of a CART's RUN of a DAY, NOW. NONE: no such RUN.");
        new Row(BoundsTest::busy, "room", NONE, 0, 1).bounds(0, 0, 3, 7, 5).bounds(1, 0, HIGH, 10, 10);
    }

    private static void ways() {
        doc("SOON from a PLACE at an HOUR (0 .. 6,000). NONE: none, no such ones.");
        new Row(BoundsTest::busy, "soon", NONE, 0, 40, 2).bounds(0, 0, 11, 69, 93);
        new Row(BoundsTest::busy, "soon", NONE, 11, 40, 0).bounds(1, 0, 6000, 5, 6005).bounds(2, 0, 11, 53, 40);
        doc("from a PLACE at an HOUR on (0 .. 6,000 both; 336 behind at most), as bits.");
        int all = 1 << 11 | 15;
        int itself = 1 << 11;
        new Row(BoundsTest::busy, "reach", NONE, 0, 40, 69).bounds(0, 0, 11, 7, itself | 1);
        new Row(BoundsTest::busy, "reach", NONE, 11, 0, 336).bounds(1, 0, 336, all, itself);
        new Row(BoundsTest::busy, "reach", NONE, 11, 0, 337).bounds(1, 1, 337, all, itself);
        new Row(BoundsTest::busy, "reach", NONE, 11, 6000, 6000).bounds(1, 5664, 6000, all, itself);
        new Row(BoundsTest::busy, "reach", NONE, 11, 0, 0).bounds(2, 0, 336, itself, all);
        new Row(BoundsTest::busy, "reach", NONE, 11, 100, 100).bounds(2, 100, 436, itself, all);
        new Row(BoundsTest::busy, "reach", NONE, 11, 5900, 5900).bounds(2, 5900, 6000, itself, all);
        doc("but could not without a CART, as bits. NONE: no such ones.");
        new Row(BoundsTest::busy, "cut", NONE, 3, 40, 2)
            .bounds(0, 0, 3, itself | 3, itself).bounds(1, 0, 6000, itself, itself).bounds(2, 0, 11, itself, 0);
    }

    private static void parcels() {
        doc("NONE: no such PLACES, alike, size; there are 60.");
        new Row(BoundsTest::busy, "parcel", NONE, 5, 6, 3)
            .bounds(0, 0, 11, 4, 4).bounds(1, 0, 11, 4, 4).bounds(2, 1, 20, 4, 4);
        doc("n HOURS (0 .. 500): NOW. NONE: n, NOW would be above 5,000.");
        new Row(BoundsTest::busy, "tick", NONE, 0).bounds(0, 0, 500, 30, 530);
        new Row(BoundsTest::late, "tick", NONE, 0).bounds(0, 0, 10, 4990, 5000);
        doc("NoSuchElementException: no such PARCEL, what.");
        new Row(BoundsTest::busy, "told", THROWN, 0, 1).bounds(0, 0, 3, 4, 3).bounds(1, 0, 7, 2, 1);
        doc("How many PARCELS are at a PLACE's inn that have not come. NONE: no such one.");
        new Row(BoundsTest::busy, "waiting", NONE, 0).bounds(0, 0, 11, 0, 0);
    }

    private static void errands() {
        doc("WALK. False: no such SHOPS, alike, out of bounds.");
        new Row(BoundsTest::busy, "walk", FALSE, 3, 4, 7)
            .bounds(0, 0, 8, 1, 1).bounds(1, 0, 8, 1, 1).bounds(2, 0, 60, 1, 1);
        doc("A SHOP (1 .. 8) of the list, told again: that. False: out of bounds.");
        new Row(BoundsTest::busy, "errand", FALSE, 4, 3, 7)
            .bounds(0, 1, 8, 1, 1).bounds(1, 0, 60, 1, 1).bounds(2, 0, 100, 1, 1);
        doc("BEST: what 0 WORTH, 1 minutes, 2 how many SHOPS. NONE: out of bounds, what.");
        new Row(BoundsTest::busy, "best", NONE, 500, 0).bounds(0, 0, 500, 0, 29).bounds(1, 0, 2, 29, 2);
        doc("SHOP i of it (from 0 on). NONE without, out of bounds.");
        new Row(BoundsTest::busy, "round", NONE, 500, 0).bounds(0, 0, 500, NONE, 2).bounds(1, 0, 1, 2, 5);
        doc("7 SHOPS of the list. NONE for others.");
        new Row(BoundsTest::busy, "count", NONE, 0).bounds(0, 0, 7, 30, 2);
    }

    public static void main(String[] args) throws ReflectiveOperationException {
        all(BoundsTest.class);
    }
}
