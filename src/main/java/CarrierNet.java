import java.util.Arrays;
import java.util.NoSuchElementException;

/**
 * A net of village carriers: carts that go from inn to inn on told days of the week, parcels that
 * are led along them hour by hour, and errands in a market town.
 */
public final class CarrierNet {
    public static final int NONE = -1;

    private static final int PLACES = 12;
    private static final int MOST_CARTS = 12;
    private static final int MOST_STOPS = 6;
    private static final int MOST_PARCELS = 60;
    private static final int MOST_SNOW = 100;
    private static final int ALL_WEEKDAYS = 127;
    private static final int WEEK = 7;
    private static final int DAY = 24;
    private static final int LAST_DAY = 300;
    private static final int LAST_NOW = 5000;
    private static final int LAST_HOUR_ASKED = 6000;
    private static final int MOST_TICKS = 500;
    private static final int FAR = 336;
    private static final int MOST_ROOM = 50;
    private static final int MOST_FARE = 20;
    private static final int MOST_OFFSET = 60;
    private static final int MOST_SIZE = 20;
    private static final int MOST_MINUTES = 60;
    private static final int MOST_WORTH = 100;
    private static final int MOST_WITHIN = 500;

    private final Timetable timetable = new Timetable();
    private final Errands errands = new Errands();
    private final Parcel[] parcels = new Parcel[MOST_PARCELS];
    private int parcelCount = 0;
    private int now = 0;
    private int snowTold = 0;

    public CarrierNet() {
        for (int i = 0; i < MOST_PARCELS; i++) {
            parcels[i] = new Parcel();
        }
    }

    // ---- carts ----

    public int cart(int weekdays, int hour, int room, int fare, int place) {
        if (!areTerms(weekdays, room, fare) || !isIn(hour, 0, DAY - 1) || !isPlace(place)) {
            return NONE;
        }
        if (timetable.cartCount >= MOST_CARTS) {
            return NONE;
        }
        int number = timetable.cartCount;
        timetable.cartCount = number + 1;
        Cart added = timetable.carts[number];
        added.hour = hour;
        added.setTerms(weekdays, room, fare);
        timetable.addStop(number, place, 0);
        return number;
    }

    public int stop(int cart, int place, int offset) {
        if (!isCart(cart) || !isPlace(place) || offset > MOST_OFFSET) {
            return NONE;
        }
        Cart told = timetable.carts[cart];
        if (told.stops >= MOST_STOPS || offset <= told.lastOffset() || told.isLaden()) {
            return NONE;
        }
        timetable.addStop(cart, place, offset);
        return told.stops;
    }

    public boolean change(int cart, int weekdays, int room, int fare) {
        if (!isCart(cart) || !areTerms(weekdays, room, fare)) {
            return false;
        }
        Cart told = timetable.carts[cart];
        if (told.isLaden()) {
            return false;
        }
        told.setTerms(weekdays, room, fare);
        timetable.renew();
        return true;
    }

    public boolean snow(int cart, int day) {
        if (!isCart(cart) || !isIn(day, now / DAY + 1, LAST_DAY) || snowTold >= MOST_SNOW) {
            return false;
        }
        Cart told = timetable.carts[cart];
        if (told.isSnowedIn(day)) {
            return false;
        }
        told.addSnow(day);
        snowTold++;
        timetable.renew();
        return true;
    }

    public int runs(int cart, int day) {
        if (!isCart(cart) || !isIn(day, 0, LAST_DAY)) {
            return NONE;
        }
        return timetable.carts[cart].goesOn(day) ? 1 : 0;
    }

    public int fares(int cart) {
        return isCart(cart) ? timetable.carts[cart].earned : NONE;
    }

    public int room(int cart, int day) {
        if (!isCart(cart) || !timetable.carts[cart].goesOn(day)) {
            return NONE;
        }
        return timetable.carts[cart].roomLeft(day);
    }

    // ---- how soon one can be where ----

    public int soon(int from, int hour, int to) {
        if (!isPlace(from) || !isPlace(to) || !isIn(hour, 0, LAST_HOUR_ASKED)) {
            return NONE;
        }
        return timetable.soonest(from, hour, hour + FAR, 1 << to);
    }

    public int reach(int from, int hour, int by) {
        if (!isPlace(from) || !isIn(hour, 0, LAST_HOUR_ASKED) || !isIn(by, 0, LAST_HOUR_ASKED)) {
            return NONE;
        }
        if (by < hour || by - hour > FAR) {
            return NONE;
        }
        timetable.soonest(from, hour, by, timetable.links[from]);
        return timetable.reached;
    }

    public int cut(int cart, int hour, int to) {
        if (!isCart(cart) || !isPlace(to) || !isIn(hour, 0, LAST_HOUR_ASKED)) {
            return NONE;
        }
        int with = timetable.startsFor(to, hour, NONE);
        int without = timetable.startsFor(to, hour, cart);
        return with & ~without;
    }

    // ---- parcels ----

    public int parcel(int from, int to, int size) {
        if (!isPlace(from) || !isPlace(to) || from == to || !isIn(size, 1, MOST_SIZE)) {
            return NONE;
        }
        if (parcelCount >= MOST_PARCELS) {
            return NONE;
        }
        int number = parcelCount;
        parcelCount = number + 1;
        parcels[number].give(from, to, size);
        return number;
    }

    public int tick(int n) {
        if (!isIn(n, 0, MOST_TICKS) || n > LAST_NOW - now) {
            return NONE;
        }
        for (int i = 0; i < n; i++) {
            now++;
            unloadParcels();
            if (timetable.hasHalts(now)) {
                loadParcels();
            }
        }
        return now;
    }

    public int told(int parcel, int what) throws NoSuchElementException {
        if (!isIn(parcel, 0, parcelCount - 1)) {
            throw new NoSuchElementException("no such parcel");
        }
        Parcel asked = parcels[parcel];
        switch (what) {
            case 0: return asked.to;
            case 1: return asked.size;
            case 2: return asked.place;
            case 3: return asked.cart;
            case 4: return asked.day;
            case 5: return asked.leaves;
            case 6: return asked.came;
            case 7: return asked.rides;
            default: throw new NoSuchElementException("nothing is told of that");
        }
    }

    public int waiting(int place) {
        if (!isPlace(place)) {
            return NONE;
        }
        int found = 0;
        for (int i = 0; i < parcelCount; i++) {
            if (parcels[i].place == place && parcels[i].came == NONE) {
                found++;
            }
        }
        return found;
    }

    // ---- errands ----

    public boolean walk(int one, int other, int minutes) {
        if (!isIn(one, 0, Errands.SHOPS) || !isIn(other, 0, Errands.SHOPS) || one == other) {
            return false;
        }
        if (!isIn(minutes, 0, MOST_MINUTES)) {
            return false;
        }
        errands.setWalk(one, other, minutes);
        return true;
    }

    public boolean errand(int shop, int minutes, int worth) {
        if (!isIn(shop, 1, Errands.SHOPS) || !isIn(minutes, 0, MOST_MINUTES)) {
            return false;
        }
        if (!isIn(worth, 0, MOST_WORTH)) {
            return false;
        }
        errands.put(shop, minutes, worth);
        return true;
    }

    public void clear() {
        errands.empty();
    }

    public int best(int within, int what) {
        if (!isIn(within, 0, MOST_WITHIN)) {
            return NONE;
        }
        errands.choose(within);
        switch (what) {
            case 0: return errands.chosenWorth;
            case 1: return errands.chosenMinutes;
            case 2: return Integer.bitCount(errands.chosen);
            default: return NONE;
        }
    }

    public int round(int within, int i) {
        if (!isIn(within, 0, MOST_WITHIN) || !isIn(i, 0, Errands.SHOPS - 1)) {
            return NONE;
        }
        errands.choose(within);
        return errands.chosenShop(i);
    }

    public int count(int what) {
        switch (what) {
            case 0: return now;
            case 1: return timetable.cartCount;
            case 2: return parcelCount;
            case 3: return countCome();
            case 4: return countRiding();
            case 5: return snowTold;
            case 6: return timetable.earnedInAll();
            case 7: return Integer.bitCount(errands.listed);
            default: return NONE;
        }
    }

    // ---- bounds ----

    private static boolean isIn(int value, int least, int most) {
        return value >= least && value <= most;
    }

    private static boolean isPlace(int place) {
        return isIn(place, 0, PLACES - 1);
    }

    private boolean isCart(int number) {
        return isIn(number, 0, timetable.cartCount - 1);
    }

    private static boolean areTerms(int weekdays, int room, int fare) {
        return isIn(weekdays, 0, ALL_WEEKDAYS) && isIn(room, 0, MOST_ROOM) && isIn(fare, 0, MOST_FARE);
    }

    // ---- an hour of the parcels ----

    private void unloadParcels() {
        for (int i = 0; i < parcelCount; i++) {
            Parcel parcel = parcels[i];
            if (parcel.cart != NONE && parcel.leaves == now) {
                timetable.carts[parcel.cart].unload(parcel.day, parcel.size);
                parcel.leave(now);
            }
        }
    }

    private void loadParcels() {
        for (int i = 0; i < parcelCount; i++) {
            Parcel parcel = parcels[i];
            if (parcel.cart == NONE && parcel.came == NONE) {
                seekRide(parcel);
            }
        }
    }

    private void seekRide(Parcel parcel) {
        int end = timetable.haltsEnd(now);
        for (int i = timetable.haltsBegin(now); i < end; i++) {
            int number = timetable.cartOf(i);
            int stop = timetable.stopOf(i);
            Cart cart = timetable.carts[number];
            int day = cart.dayOf(stop, now);
            if (!cart.takesFrom(parcel.place, stop) || !cart.goesOn(day) || cart.roomLeft(day) < parcel.size) {
                continue;
            }
            renewPlan(parcel);
            int last = cart.lastInTime(stop, day, parcel.latest);
            if (last != NONE) {
                cart.load(day, parcel.size);
                parcel.board(number, day, cart.hourAt(last, day), cart.places[last]);
                return;
            }
        }
    }

    /**
     * A plan outlives the hour it was made in: who keeps to its latest hours still comes at the
     * same soonest hour, so it is made anew only when it was missed or the timetable is another.
     * Who leaves later comes no sooner either: where one comes too late now, no hour is in time
     * until that one is near enough.
     */
    private void renewPlan(Parcel parcel) {
        boolean known = parcel.plannedBy == timetable.version;
        if (known && (now < parcel.hopefulFrom || now <= parcel.latest[parcel.place])) {
            return;
        }
        int end = now + 2 * FAR;
        int soonest = timetable.soonest(parcel.place, now, end, 1 << parcel.to);
        parcel.plannedBy = timetable.version;
        parcel.hopefulFrom = (soonest == NONE ? end + 1 : soonest) - FAR;
        if (now < parcel.hopefulFrom) {
            Arrays.fill(parcel.latest, NONE);
        } else {
            timetable.findLatest(parcel.to, now, soonest, NONE, parcel.latest);
        }
    }

    private int countCome() {
        int found = 0;
        for (int i = 0; i < parcelCount; i++) {
            if (parcels[i].came != NONE) {
                found++;
            }
        }
        return found;
    }

    private int countRiding() {
        int found = 0;
        for (int i = 0; i < parcelCount; i++) {
            if (parcels[i].cart != NONE) {
                found++;
            }
        }
        return found;
    }

    /** A cart with its stops, its days of snow and what is on its runs. */
    private static final class Cart {
        // A run lasts 60 hours at most, so runs four days apart are never under way together.
        static final int SLOTS = 4;
        static final int WORD = 32;

        int weekdays = 0;
        int hour = 0;
        int capacity = 0;
        int fare = 0;
        int earned = 0;
        int stops = 0;
        final int[] places = new int[MOST_STOPS];
        final int[] offsets = new int[MOST_STOPS];
        final int[] snowDays = new int[LAST_DAY / WORD + 1];
        final int[] loads = new int[SLOTS];
        final int[] loadDays = new int[SLOTS];

        void setTerms(int newWeekdays, int newRoom, int newFare) {
            weekdays = newWeekdays;
            capacity = newRoom;
            fare = newFare;
        }

        int lastOffset() {
            return stops == 0 ? NONE : offsets[stops - 1];
        }

        boolean isSnowedIn(int day) {
            return isIn(day, 0, LAST_DAY) && (snowDays[day / WORD] >> (day % WORD) & 1) != 0;
        }

        void addSnow(int day) {
            snowDays[day / WORD] |= 1 << (day % WORD);
        }

        boolean goesOn(int day) {
            if (day < 0 || (weekdays >> (day % WEEK) & 1) == 0) {
                return false;
            }
            return day > LAST_DAY || (snowDays[day / WORD] >> (day % WORD) & 1) == 0;
        }

        int hourAt(int stop, int day) {
            return DAY * day + hour + offsets[stop];
        }

        /** The day of the run that is at the stop at an hour that fits it; below 0 for no run. */
        int dayOf(int stop, int atHour) {
            return (atHour - hour - offsets[stop]) / DAY;
        }

        boolean takesFrom(int place, int stop) {
            return places[stop] == place && stop + 1 < stops;
        }

        int lastInTime(int stop, int day, int[] latest) {
            for (int later = stops - 1; later > stop; later--) {
                if (hourAt(later, day) <= latest[places[later]]) {
                    return later;
                }
            }
            return NONE;
        }

        int roomLeft(int day) {
            int slot = day % SLOTS;
            return loadDays[slot] == day ? capacity - loads[slot] : capacity;
        }

        void load(int day, int size) {
            int slot = day % SLOTS;
            if (loadDays[slot] != day) {
                loadDays[slot] = day;
                loads[slot] = 0;
            }
            loads[slot] += size;
        }

        void unload(int day, int size) {
            loads[day % SLOTS] -= size;
            earned += size * fare;
        }

        boolean isLaden() {
            for (int slot = 0; slot < SLOTS; slot++) {
                if (loads[slot] > 0) {
                    return true;
                }
            }
            return false;
        }
    }

    /** A parcel, where it is, and its plan: until when it must be where to come at its soonest. */
    private static final class Parcel {
        int to = NONE;
        int size = 0;
        int place = NONE;
        int cart = NONE;
        int day = NONE;
        int leaves = NONE;
        int leavesAt = NONE;
        int came = NONE;
        int rides = 0;
        int plannedBy = NONE;
        int hopefulFrom = 0;
        final int[] latest = new int[PLACES];

        void give(int from, int newTo, int newSize) {
            place = from;
            to = newTo;
            size = newSize;
        }

        void board(int onCart, int onDay, int untilHour, int atPlace) {
            place = NONE;
            cart = onCart;
            day = onDay;
            leaves = untilHour;
            leavesAt = atPlace;
            rides++;
        }

        void leave(int hour) {
            place = leavesAt;
            if (place == to) {
                came = hour;
            }
            cart = NONE;
            day = NONE;
            leaves = NONE;
            leavesAt = NONE;
        }
    }

    /** The carts, in which order they halt in a day, and where one can be by rides on them. */
    private static final class Timetable {
        static final int STOP_BITS = 3;
        static final int STOP_MASK = 7;
        static final int CART_BITS = 4;
        static final int CART_MASK = 15;

        final Cart[] carts = new Cart[MOST_CARTS];
        int cartCount = 0;
        int version = 0;
        // Rising by hour of the day, cart and day of the run (so by falling stop).
        final int[] halts = new int[MOST_CARTS * MOST_STOPS];
        final int[] firsts = new int[DAY + 1];
        // The places one could ever come to from a place, whatever the hour.
        final int[] links = new int[PLACES];
        // A bit for each run of a cart, by its day modulo Cart.SLOTS.
        final int[] riding = new int[MOST_CARTS];
        final int[] latestRow = new int[PLACES];
        // The places come to in the last search for the soonest hour.
        int reached = 0;

        Timetable() {
            for (int i = 0; i < MOST_CARTS; i++) {
                carts[i] = new Cart();
            }
            for (int place = 0; place < PLACES; place++) {
                links[place] = 1 << place;
            }
        }

        void addStop(int number, int place, int offset) {
            Cart cart = carts[number];
            int stop = cart.stops;
            if (stop >= MOST_STOPS) {
                return;
            }
            cart.places[stop] = place;
            cart.offsets[stop] = offset;
            cart.stops = stop + 1;
            addHalt((cart.hour + offset) % DAY, number, stop);
            renew();
        }

        void addHalt(int hourOfDay, int number, int stop) {
            int halt = ((hourOfDay << CART_BITS | number) << STOP_BITS) | (STOP_MASK - stop);
            int at = firsts[DAY];
            if (at >= halts.length) {
                return;
            }
            while (at > 0 && halts[at - 1] > halt) {
                halts[at] = halts[at - 1];
                at--;
            }
            halts[at] = halt;
            for (int h = hourOfDay + 1; h <= DAY; h++) {
                firsts[h]++;
            }
        }

        int haltsBegin(int hour) {
            return firsts[hour % DAY];
        }

        int haltsEnd(int hour) {
            return firsts[hour % DAY + 1];
        }

        boolean hasHalts(int hour) {
            return haltsBegin(hour) < haltsEnd(hour);
        }

        int cartOf(int i) {
            return halts[i] >> STOP_BITS & CART_MASK;
        }

        int stopOf(int i) {
            return STOP_MASK - (halts[i] & STOP_MASK);
        }

        /** To be called whenever the rides are others: plans made before no longer hold. */
        void renew() {
            version++;
            for (int place = 0; place < PLACES; place++) {
                links[place] = 1 << place;
            }
            for (int pass = 0; pass < PLACES; pass++) {
                if (!growLinks()) {
                    return;
                }
            }
        }

        boolean growLinks() {
            boolean grown = false;
            for (int i = 0; i < cartCount; i++) {
                Cart cart = carts[i];
                int later = 0;
                for (int stop = cart.weekdays == 0 ? NONE : cart.stops - 1; stop >= 0; stop--) {
                    int place = cart.places[stop];
                    if ((later & ~links[place]) != 0) {
                        links[place] |= later;
                        grown = true;
                    }
                    later |= links[place];
                }
            }
            return grown;
        }

        /** The first hour, from start to end, by which one can have been at all the wanted places; NONE. */
        int soonest(int from, int start, int end, int wanted) {
            reached = 1 << from;
            if ((wanted & ~links[from]) != 0) {
                return NONE;
            }
            Arrays.fill(riding, 0);
            for (int hour = start; hour <= end; hour++) {
                getDown(hour);
                if ((reached & wanted) == wanted) {
                    return hour;
                }
                getOn(hour);
            }
            return NONE;
        }

        void getDown(int hour) {
            int end = haltsEnd(hour);
            for (int i = haltsBegin(hour); i < end; i++) {
                int number = cartOf(i);
                if (riding[number] == 0) {
                    continue;
                }
                Cart cart = carts[number];
                int stop = stopOf(i);
                int run = 1 << (cart.dayOf(stop, hour) & Cart.SLOTS - 1);
                if ((riding[number] & run) != 0) {
                    reached |= 1 << cart.places[stop];
                    if (stop + 1 == cart.stops) {
                        riding[number] &= ~run;
                    }
                }
            }
        }

        void getOn(int hour) {
            int end = haltsEnd(hour);
            for (int i = haltsBegin(hour); i < end; i++) {
                int number = cartOf(i);
                Cart cart = carts[number];
                int stop = stopOf(i);
                if ((reached >> cart.places[stop] & 1) == 0 || stop + 1 >= cart.stops) {
                    continue;
                }
                int day = cart.dayOf(stop, hour);
                if (cart.goesOn(day)) {
                    riding[number] |= 1 << (day & Cart.SLOTS - 1);
                }
            }
        }

        /** The places from which one can be at a place, from an hour on, without a cart. */
        int startsFor(int to, int hour, int without) {
            findLatest(to, hour, hour + FAR, without, latestRow);
            int starts = 0;
            for (int place = 0; place < PLACES; place++) {
                if (latestRow[place] != NONE) {
                    starts |= 1 << place;
                }
            }
            return starts;
        }

        /** For each place the latest hour, from start on, from which one comes to a place by end; NONE. */
        void findLatest(int to, int start, int end, int without, int[] latest) {
            Arrays.fill(riding, 0);
            Arrays.fill(latest, NONE);
            latest[to] = end;
            for (int hour = end; hour >= start; hour--) {
                lookWhereItCameBy(hour, latest);
                lookWhatComes(hour, without, latest);
            }
        }

        void lookWhereItCameBy(int hour, int[] latest) {
            int end = haltsEnd(hour);
            for (int i = haltsBegin(hour); i < end; i++) {
                int number = cartOf(i);
                if (riding[number] == 0) {
                    continue;
                }
                Cart cart = carts[number];
                int stop = stopOf(i);
                int run = 1 << (cart.dayOf(stop, hour) & Cart.SLOTS - 1);
                if ((riding[number] & run) != 0) {
                    int place = cart.places[stop];
                    latest[place] = Math.max(latest[place], hour);
                    if (stop == 0) {
                        riding[number] &= ~run;
                    }
                }
            }
        }

        void lookWhatComes(int hour, int without, int[] latest) {
            int end = haltsEnd(hour);
            for (int i = haltsBegin(hour); i < end; i++) {
                int number = cartOf(i);
                int stop = stopOf(i);
                Cart cart = carts[number];
                if (number == without || stop == 0 || latest[cart.places[stop]] == NONE) {
                    continue;
                }
                int day = cart.dayOf(stop, hour);
                if (cart.goesOn(day)) {
                    riding[number] |= 1 << (day & Cart.SLOTS - 1);
                }
            }
        }

        int earnedInAll() {
            int sum = 0;
            for (int i = 0; i < cartCount; i++) {
                sum += carts[i].earned;
            }
            return sum;
        }
    }

    /** The errands of a market town and the round that pays best. Sets of shops are bits, 0 for shop 1. */
    private static final class Errands {
        static final int SHOPS = 8;
        static final int STANDS = SHOPS + 1;
        static final int SETS = 1 << SHOPS;
        static final int FIRST_WALK = 10;
        static final int ENDLESS = 1000000;
        static final int SIGN_BITS = 4;
        static final int SIGN_MASK = 15;

        final int[] walks = new int[STANDS * STANDS];
        final int[] minutes = new int[STANDS];
        final int[] worths = new int[STANDS];
        // The fewest minutes from a stand through all shops of a set to the inn.
        final int[] ways = new int[SETS * STANDS];
        int listed = 0;
        boolean measured = false;
        int chosenFor = NONE;
        int chosen = 0;
        int chosenWorth = 0;
        int chosenMinutes = 0;
        // The shops in their order, the first one highest, so that the lower number is the one ahead.
        long chosenOrder = 0;

        Errands() {
            for (int i = 0; i < STANDS; i++) {
                for (int j = 0; j < STANDS; j++) {
                    walks[i * STANDS + j] = i == j ? 0 : FIRST_WALK;
                }
            }
        }

        void setWalk(int one, int other, int newMinutes) {
            walks[one * STANDS + other] = newMinutes;
            walks[other * STANDS + one] = newMinutes;
            forget();
        }

        void put(int shop, int newMinutes, int newWorth) {
            listed |= bitOf(shop);
            minutes[shop] = newMinutes;
            worths[shop] = newWorth;
            forget();
        }

        void empty() {
            listed = 0;
            forget();
        }

        void forget() {
            measured = false;
            chosenFor = NONE;
        }

        static int bitOf(int shop) {
            return 1 << (shop - 1);
        }

        void measure() {
            for (int set = 0; set < SETS; set++) {
                if ((set & ~listed) != 0) {
                    continue;
                }
                ways[set * STANDS] = wayFrom(0, set);
                for (int shop = 1; shop <= SHOPS; shop++) {
                    if ((listed & ~set & bitOf(shop)) != 0) {
                        ways[set * STANDS + shop] = wayFrom(shop, set);
                    }
                }
            }
            measured = true;
        }

        int wayFrom(int stand, int set) {
            if (set == 0) {
                return walks[stand * STANDS];
            }
            int least = ENDLESS;
            for (int shop = 1; shop <= SHOPS; shop++) {
                if ((set & bitOf(shop)) != 0) {
                    least = Math.min(least, wayBy(stand, shop, set));
                }
            }
            return least;
        }

        int wayBy(int stand, int shop, int set) {
            int rest = set & ~bitOf(shop);
            return walks[stand * STANDS + shop] + minutes[shop] + ways[rest * STANDS + shop];
        }

        void choose(int within) {
            if (!measured) {
                measure();
            }
            if (chosenFor == within) {
                return;
            }
            take(0, 0, 0, 0);
            for (int set = 1; set < SETS; set++) {
                if ((set & ~listed) == 0 && ways[set * STANDS] <= within) {
                    weigh(set);
                }
            }
            chosenFor = within;
        }

        void weigh(int set) {
            int worth = worthOf(set);
            int way = ways[set * STANDS];
            if (worth < chosenWorth || worth == chosenWorth && way > chosenMinutes) {
                return;
            }
            long order = orderOf(set);
            if (worth > chosenWorth || way < chosenMinutes || order < chosenOrder) {
                take(set, worth, way, order);
            }
        }

        void take(int set, int worth, int way, long order) {
            chosen = set;
            chosenWorth = worth;
            chosenMinutes = way;
            chosenOrder = order;
        }

        int worthOf(int set) {
            int sum = 0;
            for (int shop = 1; shop <= SHOPS; shop++) {
                if ((set & bitOf(shop)) != 0) {
                    sum += worths[shop];
                }
            }
            return sum;
        }

        long orderOf(int set) {
            long order = 0;
            int rest = set;
            int stand = 0;
            for (int i = 0; i < SHOPS; i++) {
                int shop = nextShop(stand, rest);
                order = order << SIGN_BITS | shop;
                if (shop != 0) {
                    rest &= ~bitOf(shop);
                    stand = shop;
                }
            }
            return order;
        }

        /** The lowest shop by which the way stays the least; 0 if none is left. */
        int nextShop(int stand, int set) {
            for (int shop = 1; shop <= SHOPS; shop++) {
                if ((set & bitOf(shop)) != 0 && wayBy(stand, shop, set) == ways[set * STANDS + stand]) {
                    return shop;
                }
            }
            return 0;
        }

        int chosenShop(int i) {
            int shop = (int) (chosenOrder >> SIGN_BITS * (SHOPS - 1 - i)) & SIGN_MASK;
            return shop == 0 ? NONE : shop;
        }
    }
}
