import java.util.ArrayList;
import java.util.HashMap;
import java.util.List;
import java.util.Map;
import java.util.regex.Pattern;

/**
 * The document, written down a second time, as plainly and with as little in common with MovedStalls
 * as may be: states are copied whole, arrivals are searched by recursion, texts are read by patterns.
 */
final class Model {
    private static final int NEVER = Integer.MAX_VALUE;
    private static final Pattern TOURS = Pattern.compile("[0-5]{1,7}(\\*[0-9])?(;[0-5]{1,7}(\\*[0-9])?)*");
    private static final Pattern TOURS_BEGIN = Pattern.compile("([0-5]{1,7}(\\*[0-9])?;)*([0-5]{1,7}(\\*[0-9]?)?)?");
    private static final String LETTER = "(0>[1-5]|1>[02-5]|2>[013-5]|3>[0-245]|4>[0-35]|5>[0-4])";
    private static final Pattern LETTERS = Pattern.compile(LETTER + "(," + LETTER + ")*");
    private static final Pattern LETTERS_BEGIN = Pattern.compile("(" + LETTER + ",)*([0-5]|[0-5]>|" + LETTER + ")?");

    private static final class Walker {
        List<Integer> tour = new ArrayList<Integer>();
        int roughness;
        int again;
        int got;
        int broke;
    }

    private static final class Parcel {
        int goal;
        Integer town;
        Integer hand;
        Integer came;
        Integer promise;
        boolean broken;
        int changes;
        int day;
    }

    private static final class State {
        int[] stall = new int[7];
        List<Walker> walkers = new ArrayList<Walker>();
        List<Parcel> parcels = new ArrayList<Parcel>();
        int today;
        int load = 3;
        int x = 1;
        int posted;
        int arrivals;
        int forgotten;
        int changes;
        int breaks;

        State copy() {
            State c = new State();
            c.stall = stall.clone();
            for (Walker w : walkers) {
                Walker v = new Walker();
                v.tour.addAll(w.tour);
                v.roughness = w.roughness;
                v.again = w.again;
                v.got = w.got;
                v.broke = w.broke;
                c.walkers.add(v);
            }
            for (Parcel p : parcels) {
                Parcel q = new Parcel();
                q.goal = p.goal;
                q.town = p.town;
                q.hand = p.hand;
                q.came = p.came;
                q.promise = p.promise;
                q.broken = p.broken;
                q.changes = p.changes;
                q.day = p.day;
                c.parcels.add(q);
            }
            c.today = today;
            c.load = load;
            c.x = x;
            c.posted = posted;
            c.arrivals = arrivals;
            c.forgotten = forgotten;
            c.changes = changes;
            c.breaks = breaks;
            return c;
        }

        Integer town(int walker, int day) {
            Walker w = walkers.get(walker);
            return day < w.again ? null : w.tour.get(day % w.tour.size());
        }

        boolean isIn(int walker, int town, int day) {
            Integer there = town(walker, day);
            return there != null && there == town;
        }

        /** Where the bundle can be at the end of a day, if it was at this place before; changes alone. */
        List<Integer> choices(Integer town, Integer hand, int day) {
            List<Integer> all = new ArrayList<Integer>();
            for (int w = 0; w < walkers.size(); w++) {
                if (town != null && isIn(w, town, day)) {
                    all.add(w);
                }
                int s = stall[day % 7];
                if (hand != null && hand != w && s != 6 && isIn(w, s, day) && isIn(hand, s, day)) {
                    all.add(w);
                }
            }
            return all;
        }

        int arrival(Integer town, Integer hand, int goal, int behind) {
            return search(town, hand, goal, behind + 1, behind + 30, new HashMap<String, Integer>());
        }

        private int search(Integer town, Integer hand, int goal, int day, int last, Map<String, Integer> known) {
            if (day > last) {
                return NEVER;
            }
            String key = town + " " + hand + " " + day;
            if (known.containsKey(key)) {
                return known.get(key);
            }
            int least = NEVER;
            if (hand != null && isIn(hand, goal, day)) {
                least = day;
            } else {
                least = search(town, hand, goal, day + 1, last, known);
                for (int w : choices(town, hand, day)) {
                    least = Math.min(least, search(null, w, goal, day + 1, last, known));
                }
            }
            known.put(key, least);
            return least;
        }

        int has(int walker) {
            int n = 0;
            for (Parcel p : parcels) {
                if (p.hand != null && p.hand == walker) {
                    n++;
                }
            }
            return n;
        }

        boolean full(int walker) {
            return has(walker) >= load;
        }

        Integer arrivalNow(Parcel p) {
            if (p.came != null) {
                return p.came;
            }
            int day = arrival(p.town, p.hand, p.goal, today);
            return day == NEVER ? null : day;
        }

        Integer delay(Parcel p) {
            Integer day = arrivalNow(p);
            return day == null || p.promise == null ? null : day - p.promise;
        }

        void post(int from, int to) {
            Parcel p = new Parcel();
            p.goal = to;
            p.town = from;
            p.day = today;
            int day = arrival(from, null, to, today);
            p.promise = day == NEVER ? null : day;
            parcels.add(p);
            posted++;
        }

        void passOne() {
            today++;
            for (Parcel p : parcels) {
                if (p.came != null) {
                    continue;
                }
                if (p.hand != null && isIn(p.hand, p.goal, today)) {
                    p.came = today;
                    p.hand = null;
                    arrivals++;
                    continue;
                }
                int least = arrival(p.town, p.hand, p.goal, today);
                Integer best = null;
                for (int w : choices(p.town, p.hand, today)) {
                    int day = full(w) ? NEVER : arrival(null, w, p.goal, today);
                    if (day < least) {
                        least = day;
                        best = w;
                    }
                }
                if (best != null) {
                    give(p, best);
                }
            }
        }

        private void give(Parcel p, int w) {
            Walker who = walkers.get(w);
            p.town = null;
            p.hand = w;
            p.changes++;
            who.got++;
            changes++;
            x = (421 * x + 1663) % 10000;
            if (x % 10 < who.roughness && !p.broken) {
                p.broken = true;
                who.broke++;
                breaks++;
            }
        }
    }

    private State now = new State();
    private State snapshot;
    private final List<State> history = new ArrayList<State>();
    private String pad = "";

    private static int told(Integer number) {
        return number == null ? -4 : number;
    }

    private static boolean in(int number, int least, int greatest) {
        return number >= least && number <= greatest;
    }

    private boolean isWalker(int number) {
        return in(number, 0, now.walkers.size() - 1);
    }

    private boolean isParcel(int number) {
        return in(number, 0, now.parcels.size() - 1);
    }

    private static boolean areTowns(int from, int to) {
        return in(from, 0, 5) && in(to, 0, 5) && from != to;
    }

    private void record() {
        history.add(now.copy());
        if (history.size() > 4) {
            history.remove(0);
        }
    }

    int stall(int weekday, int town) {
        if (!in(weekday, 0, 6) || !in(town, 0, 6)) {
            return -1;
        }
        record();
        int before = now.stall[weekday];
        now.stall[weekday] = town;
        return before;
    }

    int ill(int carrier, int days) {
        if (!isWalker(carrier) || !in(days, 0, 30)) {
            return -1;
        }
        record();
        int tomorrow = now.today + 1;
        now.walkers.get(carrier).again = days == 0 ? 0 : tomorrow + days;
        return now.walkers.get(carrier).again;
    }

    int rough(int carrier, int roughness) {
        if (!isWalker(carrier) || !in(roughness, 0, 9)) {
            return -1;
        }
        record();
        int before = now.walkers.get(carrier).roughness;
        now.walkers.get(carrier).roughness = roughness;
        return before;
    }

    int load(int load) {
        if (!in(load, 1, 8)) {
            return -1;
        }
        record();
        int before = now.load;
        now.load = load;
        return before;
    }

    int post(int from, int to) {
        if (!areTowns(from, to)) {
            return -1;
        }
        if (now.parcels.size() == 8) {
            return -3;
        }
        record();
        now.post(from, to);
        return told(now.parcels.get(now.parcels.size() - 1).promise);
    }

    int forget(int bundle) {
        if (!isParcel(bundle)) {
            return -1;
        }
        record();
        now.parcels.remove(bundle);
        now.forgotten++;
        return now.parcels.size();
    }

    int pass(int days) {
        if (!in(days, 1, 30)) {
            return -1;
        }
        record();
        int before = now.arrivals;
        for (int i = 0; i < days; i++) {
            now.passOne();
        }
        return now.arrivals - before;
    }

    int append(int code) {
        if (!in(code, 33, 126)) {
            return -1;
        }
        if (pad.length() == 60) {
            return -3;
        }
        pad += (char) code;
        return pad.length();
    }

    int clear() {
        int before = pad.length();
        pad = "";
        return before;
    }

    int fault(int way) {
        if (!in(way, 0, 1)) {
            return -1;
        }
        if ((way == 0 ? TOURS : LETTERS).matcher(pad).matches()) {
            return -4;
        }
        for (int i = 0; i < pad.length(); i++) {
            if (!(way == 0 ? TOURS_BEGIN : LETTERS_BEGIN).matcher(pad.substring(0, i + 1)).matches()) {
                return i;
            }
        }
        return pad.length();
    }

    int tours() {
        if (fault(0) != -4) {
            return -2;
        }
        String[] parts = pad.split(";");
        if (now.walkers.size() + parts.length > 4) {
            return -3;
        }
        record();
        for (String part : parts) {
            String[] halves = part.split("\\*");
            Walker w = new Walker();
            for (char c : halves[0].toCharArray()) {
                w.tour.add(c - '0');
            }
            w.roughness = halves.length > 1 ? Integer.parseInt(halves[1]) : 0;
            now.walkers.add(w);
        }
        pad = "";
        return now.walkers.size();
    }

    int letters() {
        if (fault(1) != -4) {
            return -2;
        }
        String[] parts = pad.split(",");
        if (now.parcels.size() + parts.length > 8) {
            return -3;
        }
        record();
        for (String part : parts) {
            now.post(part.charAt(0) - '0', part.charAt(2) - '0');
        }
        pad = "";
        return now.parcels.size();
    }

    int where(int carrier, int day) {
        return !isWalker(carrier) || !in(day, 0, 9999) ? -1 : told(now.town(carrier, day));
    }

    int carrier(int carrier, int what) {
        if (!isWalker(carrier) || !in(what, 0, 6)) {
            return -1;
        }
        Walker w = now.walkers.get(carrier);
        int[] all = {w.tour.size(), w.roughness, now.has(carrier), now.full(carrier) ? 1 : 0, w.again, w.got, w.broke};
        return all[what];
    }

    int bundle(int bundle, int what) {
        if (!isParcel(bundle) || !in(what, 0, 8)) {
            return -1;
        }
        Parcel p = now.parcels.get(bundle);
        Integer delay = now.delay(p);
        int[] all = {p.goal, told(p.town), told(p.hand), told(p.came), told(p.promise),
            delay == null ? -4 : delay + 1000, p.broken ? 1 : 0, p.changes, p.day};
        return all[what];
    }

    int arrival(int bundle, int way) {
        return !isParcel(bundle) || !in(way, 0, 1) ? -1 : told(now.arrivalNow(now.parcels.get(bundle)));
    }

    int meeting(int carrier, int other, boolean atStall) {
        if (!isWalker(carrier) || !isWalker(other) || carrier == other) {
            return -1;
        }
        for (int day = now.today + 1; day <= now.today + 30; day++) {
            Integer a = now.town(carrier, day);
            Integer b = now.town(other, day);
            if (a != null && a.equals(b) && (!atStall || a.equals(now.stall[day % 7]))) {
                return day;
            }
        }
        return -4;
    }

    int count(int what) {
        if (!in(what, 0, 16)) {
            return -1;
        }
        int ill = 0;
        for (Walker w : now.walkers) {
            ill += now.today < w.again ? 1 : 0;
        }
        int lying = 0;
        int carried = 0;
        int come = 0;
        int broken = 0;
        for (Parcel p : now.parcels) {
            lying += p.town != null ? 1 : 0;
            carried += p.hand != null ? 1 : 0;
            come += p.came != null ? 1 : 0;
            broken += p.broken ? 1 : 0;
        }
        int stall = now.stall[now.today % 7];
        int[] all = {now.today, stall == 6 ? -4 : stall, now.walkers.size(), ill, now.parcels.size(), lying, carried,
            come, broken, now.posted, now.arrivals, now.forgotten, now.changes, now.load, now.x, pad.length(),
            history.size()};
        return all[what];
    }

    double lateness() {
        double sum = 0.0;
        int number = 0;
        for (Parcel p : now.parcels) {
            Integer delay = now.delay(p);
            if (delay != null) {
                sum += delay;
                number++;
            }
        }
        return number == 0 ? 0.0 : sum / number;
    }

    int ifPosted(int from, int to, int day) {
        if (!areTowns(from, to) || !in(day, 0, 30)) {
            return -1;
        }
        int arrival = now.arrival(from, null, to, now.today + day);
        return arrival == NEVER ? -4 : arrival;
    }

    int bestDay(int from, int to) {
        if (!areTowns(from, to)) {
            return -1;
        }
        int fewest = NEVER;
        int best = -4;
        for (int n = 13; n >= 0; n--) {
            int arrival = ifPosted(from, to, n);
            if (arrival != -4 && arrival - now.today - n <= fewest) {
                fewest = arrival - now.today - n;
                best = n;
            }
        }
        return best;
    }

    int bestTown(int weekday) {
        if (!in(weekday, 0, 6)) {
            return -1;
        }
        long bestWorth = Long.MIN_VALUE;
        int best = -1;
        for (int town = 6; town >= 0; town--) {
            State would = now.copy();
            would.stall[weekday] = town;
            long worth = 0;
            for (Parcel p : would.parcels) {
                Integer day = would.arrivalNow(p);
                if (p.came == null && day != null) {
                    worth += 1000000L - day;
                }
            }
            if (worth >= bestWorth) {
                bestWorth = worth;
                best = town;
            }
        }
        return best;
    }

    int ifPassed(int days, int what) {
        if (!in(days, 1, 30) || !in(what, 0, 2)) {
            return -1;
        }
        State would = now.copy();
        for (int i = 0; i < days; i++) {
            would.passOne();
        }
        int[] all = {would.arrivals - now.arrivals, would.changes - now.changes, would.breaks - now.breaks};
        return all[what];
    }

    int undo() {
        if (history.isEmpty()) {
            return -2;
        }
        now = history.remove(history.size() - 1);
        return history.size();
    }

    int save() {
        snapshot = now.copy();
        return now.today;
    }

    int restore() {
        if (snapshot == null) {
            return -2;
        }
        record();
        now = snapshot.copy();
        return now.today;
    }
}
