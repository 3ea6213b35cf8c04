import java.util.Arrays;

/** Towns, a stall that moves, carriers with tours, and bundles of letters that change hands. */
public final class MovedStalls {
    public static final int INVALID_ARGUMENT = -1;
    public static final int NOT_POSSIBLE = -2;
    public static final int LIMIT_REACHED = -3;
    public static final int NOT_FOUND = -4;

    private static final int TOWNS = 6;
    private static final int WEEK = 7;
    private static final int MOST_CARRIERS = 4;
    private static final int MOST_BUNDLES = 8;
    private static final int LONGEST_TOUR = 7;
    private static final int MOST_SIGNS = 60;
    private static final int MOST_STATES = 4;
    private static final int MOST_LOAD = 8;
    private static final int FIRST_LOAD = 3;
    private static final int MOST_DAYS = 30;
    private static final int MOST_ROUGHNESS = 9;
    private static final int LAST_TOLD_DAY = 9999;
    private static final int DAYS_TO_CHOOSE = 14;
    private static final int DELAY_SHIFT = 1000;
    /** Behind all days: the arrival of a bundle that has none, while days are compared. */
    private static final int NEVER = 2147483647;
    private static final int NOWHERE = 6;
    // Not NOWHERE: else ill carriers would meet at a stall that stands nowhere.
    private static final int NO_TOWN = -1;

    private final Roads now = new Roads();
    // What would be is tried out here, so that looks change nothing and make no objects.
    private final Roads trial = new Roads();
    private final Roads snapshot = new Roads();
    private final History history = new History();
    private final Pad pad = new Pad();
    private final Foresight foresight = new Foresight();
    private boolean saved;

    public MovedStalls() {
    }

    // ---- stall, carriers

    public int stall(int weekday, int town) {
        if (!isWeekday(weekday) || town < 0 || town > NOWHERE) {
            return INVALID_ARGUMENT;
        }
        int before = now.stallOn(weekday);
        history.keep(now);
        now.moveStall(weekday, town);
        return before;
    }

    public int ill(int carrier, int days) {
        Carrier who = now.carrierAt(carrier);
        if (who == null || days < 0 || days > MOST_DAYS) {
            return INVALID_ARGUMENT;
        }
        history.keep(now);
        who.aboutAgain = days == 0 ? 0 : now.today + 1 + days;
        return who.aboutAgain;
    }

    public int rough(int carrier, int roughness) {
        Carrier who = now.carrierAt(carrier);
        if (who == null || roughness < 0 || roughness > MOST_ROUGHNESS) {
            return INVALID_ARGUMENT;
        }
        int before = who.roughness;
        history.keep(now);
        who.roughness = roughness;
        return before;
    }

    public int load(int load) {
        if (load < 1 || load > MOST_LOAD) {
            return INVALID_ARGUMENT;
        }
        int before = now.load;
        history.keep(now);
        now.load = load;
        return before;
    }

    // ---- bundles, days

    public int post(int from, int to) {
        if (!areTwoTowns(from, to)) {
            return INVALID_ARGUMENT;
        }
        if (now.bundleCount >= MOST_BUNDLES) {
            return LIMIT_REACHED;
        }
        history.keep(now);
        int promise = foresight.ifLying(now, from, to, now.today);
        now.addBundle(from, to, promise);
        return promise;
    }

    public int forget(int bundle) {
        if (now.bundleAt(bundle) == null) {
            return INVALID_ARGUMENT;
        }
        history.keep(now);
        now.removeBundle(bundle);
        return now.bundleCount;
    }

    public int pass(int days) {
        if (days < 1 || days > MOST_DAYS) {
            return INVALID_ARGUMENT;
        }
        int before = now.arrivals;
        history.keep(now);
        for (int i = 0; i < days; i++) {
            now.passDay(foresight);
        }
        return now.arrivals - before;
    }

    // ---- texts

    public int append(int code) {
        if (code < 33 || code > 126) {
            return INVALID_ARGUMENT;
        }
        if (pad.length >= MOST_SIGNS) {
            return LIMIT_REACHED;
        }
        pad.add(code);
        return pad.length;
    }

    public int clear() {
        int before = pad.length;
        pad.length = 0;
        return before;
    }

    public int fault(int way) {
        if (way != 0 && way != 1) {
            return INVALID_ARGUMENT;
        }
        return way == 0 ? pad.faultAsTours() : pad.faultAsLetters();
    }

    public int tours() {
        if (pad.faultAsTours() != NOT_FOUND) {
            return NOT_POSSIBLE;
        }
        if (now.carrierCount + pad.parts(';') > MOST_CARRIERS) {
            return LIMIT_REACHED;
        }
        history.keep(now);
        addCarriersOfPad();
        pad.length = 0;
        return now.carrierCount;
    }

    public int letters() {
        if (pad.faultAsLetters() != NOT_FOUND) {
            return NOT_POSSIBLE;
        }
        if (now.bundleCount + pad.parts(',') > MOST_BUNDLES) {
            return LIMIT_REACHED;
        }
        history.keep(now);
        for (int i = 0; i + 2 < pad.length; i += 4) {
            int from = pad.signAt(i) - '0';
            int to = pad.signAt(i + 2) - '0';
            now.addBundle(from, to, foresight.ifLying(now, from, to, now.today));
        }
        pad.length = 0;
        return now.bundleCount;
    }

    // ---- looks; nothing is changed

    public int where(int carrier, int day) {
        if (!now.hasCarrier(carrier) || day < 0 || day > LAST_TOLD_DAY) {
            return INVALID_ARGUMENT;
        }
        int town = now.townOf(carrier, day);
        return town == NO_TOWN ? NOT_FOUND : town;
    }

    public int carrier(int carrier, int what) {
        Carrier who = now.carrierAt(carrier);
        if (who == null) {
            return INVALID_ARGUMENT;
        }
        switch (what) {
            case 0:
                return who.length;
            case 1:
                return who.roughness;
            case 2:
                return now.bundlesWith(carrier);
            case 3:
                return now.isFull(carrier) ? 1 : 0;
            case 4:
                return who.aboutAgain;
            case 5:
                return who.changes;
            case 6:
                return who.broken;
            default:
                return INVALID_ARGUMENT;
        }
    }

    public int bundle(int bundle, int what) {
        Bundle one = now.bundleAt(bundle);
        if (one == null) {
            return INVALID_ARGUMENT;
        }
        switch (what) {
            case 0:
                return one.to;
            case 1:
                return one.town;
            case 2:
                return one.hand;
            case 3:
                return one.arrivedOn;
            case 4:
                return one.promise;
            case 5:
                return shiftedDelayOf(one);
            case 6:
                return one.broken ? 1 : 0;
            case 7:
                return one.changes;
            case 8:
                return one.postedOn;
            default:
                return INVALID_ARGUMENT;
        }
    }

    public int arrival(int bundle, int way) {
        Bundle one = now.bundleAt(bundle);
        if (one == null || way != 0 && way != 1) {
            return INVALID_ARGUMENT;
        }
        return way == 0 ? foresight.arrivalOf(now, one) : foresight.arrivalByHands(now, one);
    }

    public int meeting(int carrier, int other, boolean atStall) {
        if (!now.hasCarrier(carrier) || !now.hasCarrier(other) || carrier == other) {
            return INVALID_ARGUMENT;
        }
        for (int ahead = 1; ahead <= MOST_DAYS; ahead++) {
            int day = now.today + ahead;
            int town = now.townOf(carrier, day);
            boolean together = town != NO_TOWN && town == now.townOf(other, day);
            if (together && (!atStall || town == now.stallOn(day))) {
                return day;
            }
        }
        return NOT_FOUND;
    }

    public int count(int what) {
        switch (what) {
            case 0:
                return now.today;
            case 1:
                return stallToday();
            case 2:
                return now.carrierCount;
            case 3:
                return now.illToday();
            case 4:
                return now.bundleCount;
            case 5:
                return now.lyingBundles();
            case 6:
                return now.bundleCount - now.lyingBundles() - now.arrivedBundles();
            case 7:
                return now.arrivedBundles();
            case 8:
                return now.brokenBundles();
            case 9:
                return now.posted;
            case 10:
                return now.arrivals;
            case 11:
                return now.forgotten;
            case 12:
                return now.changes;
            case 13:
                return now.load;
            case 14:
                return now.lot;
            case 15:
                return pad.length;
            case 16:
                return history.length;
            default:
                return INVALID_ARGUMENT;
        }
    }

    public double lateness() {
        int sum = 0;
        int found = 0;
        for (int b = 0; b < now.bundleCount; b++) {
            int delay = delayOf(now.bundleAt(b));
            if (delay != NEVER) {
                sum += delay;
                found++;
            }
        }
        return found == 0 ? 0.0 : (double) sum / found;
    }

    // ---- what would be; nothing is changed

    public int ifPosted(int from, int to, int day) {
        if (!areTwoTowns(from, to) || day < 0 || day > MOST_DAYS) {
            return INVALID_ARGUMENT;
        }
        return foresight.ifLying(now, from, to, now.today + day);
    }

    public int bestDay(int from, int to) {
        if (!areTwoTowns(from, to)) {
            return INVALID_ARGUMENT;
        }
        int best = NOT_FOUND;
        int fewest = NEVER;
        for (int ahead = 0; ahead < DAYS_TO_CHOOSE; ahead++) {
            int day = now.today + ahead;
            int arrival = foresight.ifLying(now, from, to, day);
            if (arrival != NOT_FOUND && arrival - day < fewest) {
                fewest = arrival - day;
                best = ahead;
            }
        }
        return best;
    }

    public int bestTown(int weekday) {
        if (!isWeekday(weekday)) {
            return INVALID_ARGUMENT;
        }
        trial.copyFrom(now);
        int best = 0;
        int most = -1;
        int leastSum = 0;
        for (int town = 0; town <= NOWHERE; town++) {
            trial.moveStall(weekday, town);
            foresight.addUpArrivals(trial);
            int found = foresight.found;
            int sum = foresight.sum;
            if (found > most || found == most && sum < leastSum) {
                best = town;
                most = found;
                leastSum = sum;
            }
        }
        return best;
    }

    public int ifPassed(int days, int what) {
        if (days < 1 || days > MOST_DAYS || what < 0 || what > 2) {
            return INVALID_ARGUMENT;
        }
        trial.copyFrom(now);
        for (int i = 0; i < days; i++) {
            trial.passDay(foresight);
        }
        if (what == 0) {
            return trial.arrivals - now.arrivals;
        }
        return what == 1 ? trial.changes - now.changes : trial.brokenBundles() - now.brokenBundles();
    }

    // ---- history, snapshot

    public int undo() {
        if (history.length == 0) {
            return NOT_POSSIBLE;
        }
        history.takeBack(now);
        return history.length;
    }

    public int save() {
        snapshot.copyFrom(now);
        saved = true;
        return now.today;
    }

    public int restore() {
        if (!saved) {
            return NOT_POSSIBLE;
        }
        history.keep(now);
        now.copyFrom(snapshot);
        return now.today;
    }

    // ---- helpers of the face

    private static boolean isWeekday(int weekday) {
        return weekday >= 0 && weekday < WEEK;
    }

    private static boolean areTwoTowns(int from, int to) {
        return from >= 0 && from < TOWNS && to >= 0 && to < TOWNS && from != to;
    }

    private int stallToday() {
        int town = now.stallOn(now.today);
        return town == NOWHERE ? NOT_FOUND : town;
    }

    private int shiftedDelayOf(Bundle one) {
        int delay = delayOf(one);
        return delay == NEVER ? NOT_FOUND : delay + DELAY_SHIFT;
    }

    /** The delay of a bundle, NEVER if it has none: a delay itself may be NOT_FOUND's number. */
    private int delayOf(Bundle one) {
        if (one == null || one.promise == NOT_FOUND) {
            return NEVER;
        }
        int day = foresight.arrivalOf(now, one);
        return day == NOT_FOUND ? NEVER : day - one.promise;
    }

    /** Reads a pad without a fault, so that each sign tells by itself what it is. */
    private void addCarriersOfPad() {
        Carrier who = now.addCarrier();
        for (int i = 0; i < pad.length && who != null; i++) {
            int sign = pad.signAt(i);
            if (sign == ';') {
                who = now.addCarrier();
            } else if (sign == '*') {
                i++;
                who.roughness = pad.signAt(i) - '0';
            } else {
                who.addTown(sign - '0');
            }
        }
    }

    private static final class Carrier {
        private final int[] tour = new int[LONGEST_TOUR];
        private int length;
        private int roughness;
        private int aboutAgain;
        private int changes;
        private int broken;

        void begin() {
            length = 0;
            roughness = 0;
            aboutAgain = 0;
            changes = 0;
            broken = 0;
        }

        void addTown(int town) {
            if (length >= 0 && length < tour.length) {
                tour[length] = town;
                length++;
            }
        }

        void copyFrom(Carrier other) {
            for (int i = 0; i < tour.length && i < other.tour.length; i++) {
                tour[i] = other.tour[i];
            }
            length = other.length;
            roughness = other.roughness;
            aboutAgain = other.aboutAgain;
            changes = other.changes;
            broken = other.broken;
        }
    }

    /** A bundle: town, hand and arrivedOn are NOT_FOUND, but for the one that is so just now. */
    private static final class Bundle {
        private int to;
        private int town;
        private int hand;
        private int arrivedOn;
        private int promise;
        private boolean broken;
        private int changes;
        private int postedOn;

        void begin(int from, int goal, int promised, int day) {
            to = goal;
            town = from;
            hand = NOT_FOUND;
            arrivedOn = NOT_FOUND;
            promise = promised;
            broken = false;
            changes = 0;
            postedOn = day;
        }

        void copyFrom(Bundle other) {
            to = other.to;
            town = other.town;
            hand = other.hand;
            arrivedOn = other.arrivedOn;
            promise = other.promise;
            broken = other.broken;
            changes = other.changes;
            postedOn = other.postedOn;
        }
    }

    /** Everything that a change records and a snapshot keeps. */
    private static final class Roads {
        private final int[] stalls = new int[WEEK];
        private final Carrier[] carriers = new Carrier[MOST_CARRIERS];
        private final Bundle[] bundles = new Bundle[MOST_BUNDLES];
        private int carrierCount;
        private int bundleCount;
        private int today;
        private int load = FIRST_LOAD;
        private int lot = 1;
        private int posted;
        private int arrivals;
        private int forgotten;
        private int changes;

        Roads() {
            for (int c = 0; c < carriers.length; c++) {
                carriers[c] = new Carrier();
            }
            for (int b = 0; b < bundles.length; b++) {
                bundles[b] = new Bundle();
            }
        }

        void copyFrom(Roads other) {
            for (int i = 0; i < stalls.length && i < other.stalls.length; i++) {
                stalls[i] = other.stalls[i];
            }
            carrierCount = other.carrierCount;
            bundleCount = other.bundleCount;
            for (int c = 0; c < carrierCount; c++) {
                copyCarrier(carrierAt(c), other.carrierAt(c));
            }
            for (int b = 0; b < bundleCount; b++) {
                copyBundle(bundleAt(b), other.bundleAt(b));
            }
            today = other.today;
            load = other.load;
            lot = other.lot;
            posted = other.posted;
            arrivals = other.arrivals;
            forgotten = other.forgotten;
            changes = other.changes;
        }

        private static void copyCarrier(Carrier copy, Carrier original) {
            if (copy != null && original != null) {
                copy.copyFrom(original);
            }
        }

        private static void copyBundle(Bundle copy, Bundle original) {
            if (copy != null && original != null) {
                copy.copyFrom(original);
            }
        }

        boolean hasCarrier(int number) {
            return number >= 0 && number < carrierCount;
        }

        Carrier carrierAt(int number) {
            boolean there = number >= 0 && number < carrierCount && number < carriers.length;
            return there ? carriers[number] : null;
        }

        Bundle bundleAt(int number) {
            boolean there = number >= 0 && number < bundleCount && number < bundles.length;
            return there ? bundles[number] : null;
        }

        Carrier addCarrier() {
            if (carrierCount < 0 || carrierCount >= carriers.length) {
                return null;
            }
            Carrier who = carriers[carrierCount];
            carrierCount++;
            if (who != null) {
                who.begin();
            }
            return who;
        }

        void addBundle(int from, int to, int promise) {
            if (bundleCount < 0 || bundleCount >= bundles.length) {
                return;
            }
            Bundle one = bundles[bundleCount];
            if (one != null) {
                one.begin(from, to, promise, today);
                bundleCount++;
                posted++;
            }
        }

        void removeBundle(int number) {
            Bundle gone = bundleAt(number);
            if (gone == null) {
                return;
            }
            int last = number;
            for (int b = number; b + 1 < bundleCount && b + 1 < bundles.length; b++) {
                bundles[b] = bundles[b + 1];
                last = b + 1;
            }
            // Kept behind the last one, to be used again by a later bundle.
            bundles[last] = gone;
            bundleCount--;
            forgotten++;
        }

        void moveStall(int weekday, int town) {
            if (weekday >= 0 && weekday < stalls.length) {
                stalls[weekday] = town;
            }
        }

        int stallOn(int day) {
            int weekday = day % WEEK;
            return weekday >= 0 && weekday < stalls.length ? stalls[weekday] : NOWHERE;
        }

        /** The town in which a carrier is on a day; NO_TOWN if ill, or if there is no such carrier. */
        int townOf(int number, int day) {
            if (number < 0 || number >= carrierCount || number >= carriers.length) {
                return NO_TOWN;
            }
            Carrier who = carriers[number];
            if (who == null || who.length < 1 || day < 0 || day < who.aboutAgain) {
                return NO_TOWN;
            }
            int place = day % who.length;
            return place < who.tour.length ? who.tour[place] : NO_TOWN;
        }

        /** The carriers who are in a town on a day, a bit for each. */
        int carriersIn(int town, int day) {
            int bits = 0;
            for (int c = 0; c < carrierCount; c++) {
                if (townOf(c, day) == town) {
                    bits |= 1 << c;
                }
            }
            return bits;
        }

        int illToday() {
            int ill = 0;
            for (int c = 0; c < carrierCount; c++) {
                if (townOf(c, today) == NO_TOWN) {
                    ill++;
                }
            }
            return ill;
        }

        int bundlesWith(int number) {
            int found = 0;
            for (int b = 0; b < bundleCount; b++) {
                Bundle one = bundleAt(b);
                if (one != null && one.hand == number) {
                    found++;
                }
            }
            return found;
        }

        boolean isFull(int number) {
            // Not ==: who had more when LOAD became less is full all the more.
            return bundlesWith(number) >= load;
        }

        int lyingBundles() {
            int found = 0;
            for (int b = 0; b < bundleCount; b++) {
                Bundle one = bundleAt(b);
                if (one != null && one.town != NOT_FOUND) {
                    found++;
                }
            }
            return found;
        }

        int arrivedBundles() {
            int found = 0;
            for (int b = 0; b < bundleCount; b++) {
                Bundle one = bundleAt(b);
                if (one != null && one.arrivedOn != NOT_FOUND) {
                    found++;
                }
            }
            return found;
        }

        int brokenBundles() {
            int found = 0;
            for (int b = 0; b < bundleCount; b++) {
                Bundle one = bundleAt(b);
                if (one != null && one.broken) {
                    found++;
                }
            }
            return found;
        }

        void passDay(Foresight foresight) {
            today++;
            for (int b = 0; b < bundleCount; b++) {
                Bundle one = bundleAt(b);
                if (one != null && one.arrivedOn == NOT_FOUND) {
                    moveOn(one, foresight);
                }
            }
        }

        private void moveOn(Bundle one, Foresight foresight) {
            if (townOf(one.hand, today) == one.to) {
                one.hand = NOT_FOUND;
                one.arrivedOn = today;
                arrivals++;
                return;
            }
            int takers = takersOf(one);
            if (takers == 0) {
                return;
            }
            int taker = foresight.bestTaker(this, one, takers);
            if (taker != NOT_FOUND) {
                changeHands(one, taker);
            }
        }

        /** The carriers who are not full and to whom the bundle can come today, a bit for each. */
        private int takersOf(Bundle one) {
            int place = one.town != NOT_FOUND ? one.town : stallOn(today);
            if (one.hand != NOT_FOUND && townOf(one.hand, today) != place) {
                return 0;
            }
            int takers = carriersIn(place, today);
            for (int c = 0; c < carrierCount; c++) {
                if (c == one.hand || isFull(c)) {
                    takers &= ~(1 << c);
                }
            }
            return takers;
        }

        private void changeHands(Bundle one, int taker) {
            Carrier who = carrierAt(taker);
            if (who == null) {
                return;
            }
            one.town = NOT_FOUND;
            one.hand = taker;
            one.changes++;
            who.changes++;
            changes++;
            lot = (421 * lot + 1663) % 10000;
            if (lot % 10 < who.roughness && !one.broken) {
                one.broken = true;
                who.broken++;
            }
        }
    }

    /** Tells the days on which bundles would arrive; its rows are made once and used again. */
    private static final class Foresight {
        // For each carrier: the arrival of a bundle that is with this carrier.
        private final int[] inHands = new int[MOST_CARRIERS];
        private int lying;
        private int found;
        private int sum;

        /** The arrival, as seen behind a day, of a bundle that lies in a town then. */
        int ifLying(Roads roads, int from, int to, int day) {
            lookBack(roads, from, to, day);
            return lying == NEVER ? NOT_FOUND : lying;
        }

        /** The day on which a bundle arrived, or its arrival as seen now. */
        int arrivalOf(Roads roads, Bundle one) {
            if (one.arrivedOn != NOT_FOUND) {
                return one.arrivedOn;
            }
            lookBack(roads, one.town, one.to, roads.today);
            int day = ifStaying(one);
            return day == NEVER ? NOT_FOUND : day;
        }

        /** Counts the arrivals, as seen now, of bundles that have not arrived, and adds them up. */
        void addUpArrivals(Roads roads) {
            found = 0;
            sum = 0;
            for (int b = 0; b < roads.bundleCount; b++) {
                Bundle one = roads.bundleAt(b);
                if (one == null || one.arrivedOn != NOT_FOUND) {
                    continue;
                }
                int day = arrivalOf(roads, one);
                if (day != NOT_FOUND) {
                    found++;
                    sum += day;
                }
            }
        }

        /** The carrier to whom the bundle goes today, of those whose bits are set; NOT_FOUND if it stays. */
        int bestTaker(Roads roads, Bundle one, int takers) {
            lookBack(roads, one.town, one.to, roads.today);
            int best = NOT_FOUND;
            int least = ifStaying(one);
            for (int c = 0; c < inHands.length; c++) {
                if ((takers & 1 << c) != 0 && inHands[c] < least) {
                    least = inHands[c];
                    best = c;
                }
            }
            return best;
        }

        private int ifStaying(Bundle one) {
            if (one.hand == NOT_FOUND) {
                return lying;
            }
            return one.hand >= 0 && one.hand < inHands.length ? inHands[one.hand] : NEVER;
        }

        /** From the last days back: the arrivals behind a day follow from those behind the next one. */
        private void lookBack(Roads roads, int from, int to, int day) {
            Arrays.fill(inHands, NEVER);
            lying = NEVER;
            for (int ahead = MOST_DAYS; ahead >= 1; ahead--) {
                stepBack(roads, from, to, day + ahead);
            }
        }

        private void stepBack(Roads roads, int from, int to, int day) {
            int stallTown = roads.stallOn(day);
            int atStall = NEVER;
            for (int c = 0; c < inHands.length; c++) {
                int town = roads.townOf(c, day);
                if (town == stallTown) {
                    atStall = Math.min(atStall, inHands[c]);
                }
                if (town == from) {
                    lying = Math.min(lying, inHands[c]);
                }
            }
            for (int c = 0; c < inHands.length; c++) {
                int town = roads.townOf(c, day);
                if (town == to) {
                    inHands[c] = day;
                } else if (town == stallTown) {
                    inHands[c] = atStall;
                }
            }
        }

        /** The same as arrivalOf, told day by day, by all hands in which the bundle could be. */
        int arrivalByHands(Roads roads, Bundle one) {
            if (one.arrivedOn != NOT_FOUND) {
                return one.arrivedOn;
            }
            int hands = one.hand == NOT_FOUND ? 0 : 1 << one.hand;
            for (int ahead = 1; ahead <= MOST_DAYS; ahead++) {
                int day = roads.today + ahead;
                if ((hands & roads.carriersIn(one.to, day)) != 0) {
                    return day;
                }
                int atStall = roads.carriersIn(roads.stallOn(day), day);
                if ((hands & atStall) != 0) {
                    hands |= atStall;
                }
                // Behind the stall: who takes it up today can't hand it over today.
                hands |= roads.carriersIn(one.town, day);
            }
            return NOT_FOUND;
        }
    }

    /** The states before the latest changes, the oldest first. */
    private static final class History {
        private final Roads[] states = new Roads[MOST_STATES];
        private int length;

        History() {
            for (int i = 0; i < states.length; i++) {
                states[i] = new Roads();
            }
        }

        void keep(Roads roads) {
            if (length >= states.length) {
                dropOldest();
            }
            Roads state = stateAt(length);
            if (state != null) {
                state.copyFrom(roads);
                length++;
            }
        }

        void takeBack(Roads roads) {
            Roads state = stateAt(length - 1);
            if (state != null) {
                roads.copyFrom(state);
                length--;
            }
        }

        private Roads stateAt(int place) {
            return place >= 0 && place < states.length ? states[place] : null;
        }

        private void dropOldest() {
            Roads oldest = stateAt(0);
            int last = 0;
            for (int i = 0; i + 1 < states.length; i++) {
                states[i] = states[i + 1];
                last = i + 1;
            }
            if (last < states.length) {
                states[last] = oldest;
            }
            length = last;
        }
    }

    /** The pad, and where it is wrong when it is read as tours or as letters. */
    private static final class Pad {
        // How far a tour has been read: 0 to 7 towns, or one of these.
        private static final int BEHIND_STAR = 8;
        private static final int BEHIND_ROUGHNESS = 9;
        private static final int WRONG = -1;

        private final int[] signs = new int[MOST_SIGNS];
        private int length;

        void add(int sign) {
            if (length >= 0 && length < signs.length) {
                signs[length] = sign;
                length++;
            }
        }

        int signAt(int place) {
            return place >= 0 && place < length && place < signs.length ? signs[place] : 0;
        }

        /** How many parts the pad has with this sign between two. */
        int parts(int between) {
            int found = 1;
            for (int i = 0; i < length; i++) {
                if (signAt(i) == between) {
                    found++;
                }
            }
            return found;
        }

        int faultAsTours() {
            int read = 0;
            for (int i = 0; i < length; i++) {
                read = readTourSign(read, signAt(i));
                if (read == WRONG) {
                    return i;
                }
            }
            return read == 0 || read == BEHIND_STAR ? length : NOT_FOUND;
        }

        private static int readTourSign(int read, int sign) {
            if (read == BEHIND_STAR) {
                return sign >= '0' && sign <= '9' ? BEHIND_ROUGHNESS : WRONG;
            }
            if (sign == ';') {
                return read == 0 ? WRONG : 0;
            }
            if (sign == '*') {
                return read == 0 || read == BEHIND_ROUGHNESS ? WRONG : BEHIND_STAR;
            }
            return isTown(sign) && read < LONGEST_TOUR ? read + 1 : WRONG;
        }

        int faultAsLetters() {
            for (int i = 0; i < length; i++) {
                if (!fitsLetters(i)) {
                    return i;
                }
            }
            return length % 4 == 3 ? NOT_FOUND : length;
        }

        private boolean fitsLetters(int place) {
            int sign = signAt(place);
            switch (place % 4) {
                case 0:
                    return isTown(sign);
                case 1:
                    return sign == '>';
                case 2:
                    return isTown(sign) && sign != signAt(place - 2);
                default:
                    return sign == ',';
            }
        }

        private static boolean isTown(int sign) {
            return sign >= '0' && sign < '0' + TOWNS;
        }
    }
}
