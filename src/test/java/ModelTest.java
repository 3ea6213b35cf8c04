/** Runs of calls that a fixed formula chooses: each answer of MovedStalls is compared with Model's. */
public final class ModelTest {
    private static final int RUNS = 600;
    // Behind its 512th call nothing is promised of an object: no step may go beyond it.
    private static final int CALLS = 512;
    private static final int LONGEST_STEP = 52;
    private static final Due DUE = new Due("ModelTest");

    private long seed;
    private MovedStalls x;
    private Model m;
    private int calls;
    private StringBuilder told;

    public static void main(String[] args) {
        ModelTest test = new ModelTest();
        for (int run = 1; run <= RUNS && DUE.wrongSoFar() == 0; run++) {
            test.run(run);
        }
        DUE.end();
    }

    private void run(int number) {
        seed = number * 7919L;
        x = new MovedStalls();
        m = new Model();
        calls = 0;
        told = new StringBuilder("run " + number + ":");
        boolean manyStalls = below(2) == 0;
        type(tourText());
        due("tours()", x.tours(), m.tours());
        for (int weekday = 0; manyStalls && weekday <= 6; weekday++) {
            int town = below(7);
            due("stall(" + weekday + ", " + town + ")", x.stall(weekday, town), m.stall(weekday, town));
        }
        while (calls + LONGEST_STEP <= CALLS && DUE.wrongSoFar() == 0) {
            step();
        }
    }

    private int below(int bound) {
        seed = seed * 6364136223846793005L + 1442695040888963407L;
        return (int) ((seed >>> 33) % bound);
    }

    /** Mostly 0 to greatest, now and then one beside. */
    private int about(int greatest) {
        int number = below(greatest + 1);
        switch (below(40)) {
            case 0:
                return -1;
            case 1:
                return greatest + 1;
            default:
                return number;
        }
    }

    private void due(String call, double got, double want) {
        calls++;
        told.append(' ').append(call);
        if (Double.compare(got, want) != 0) {
            DUE.is(told.toString(), got, want);
        } else {
            DUE.is(call, got, want);
        }
    }

    private void type(String text) {
        due("clear()", x.clear(), m.clear());
        for (int i = 0; i < text.length(); i++) {
            int code = text.charAt(i);
            due("append(" + code + ")", x.append(code), m.append(code));
        }
    }

    private String tourText() {
        StringBuilder text = new StringBuilder();
        int number = 1 + below(4);
        int towns = 2 + below(5);
        for (int i = 0; i < number; i++) {
            text.append(i == 0 ? "" : ";");
            int length = 1 + below(7);
            for (int k = 0; k < length; k++) {
                text.append(below(towns));
            }
            if (below(2) == 0) {
                text.append('*').append(below(10));
            }
        }
        return text.toString();
    }

    private String letterText() {
        StringBuilder text = new StringBuilder();
        int number = 1 + below(5);
        for (int i = 0; i < number; i++) {
            int from = below(6);
            int to = (from + 1 + below(5)) % 6;
            text.append(i == 0 ? "" : ",").append(from).append('>').append(to);
        }
        return text.toString();
    }

    private String spoiled(String text) {
        String signs = "0123456789*;>, ~!/:\u007f";
        StringBuilder other = new StringBuilder(text);
        int place = below(text.length() + 1);
        if (below(2) == 0 || place == text.length()) {
            other.insert(place, signs.charAt(below(signs.length())));
        } else {
            other.setCharAt(place, signs.charAt(below(signs.length())));
        }
        return below(3) == 0 ? other.substring(0, place) : other.toString();
    }

    private void step() {
        int kind = below(100);
        if (kind < 4) {
            texts();
        } else if (kind < 30) {
            changes();
        } else if (kind < 36) {
            history();
        } else if (kind < 80) {
            looks();
        } else {
            whatWouldBe();
        }
    }

    private void texts() {
        String text = below(3) == 0 ? tourText() : letterText();
        type(below(2) == 0 ? text : spoiled(text));
        int way = about(1);
        due("fault(" + way + ")", x.fault(way), m.fault(way));
        due("fault(0)", x.fault(0), m.fault(0));
        due("fault(1)", x.fault(1), m.fault(1));
        due("tours()", x.tours(), m.tours());
        due("letters()", x.letters(), m.letters());
    }

    private void changes() {
        int a = about(6);
        switch (below(11)) {
            case 0:
                int town = about(6);
                due("stall(" + a + ", " + town + ")", x.stall(a, town), m.stall(a, town));
                break;
            case 1:
                int carrier = about(3);
                int ill = below(3) == 0 ? 0 : about(below(2) == 0 ? 5 : 30);
                due("ill(" + carrier + ", " + ill + ")", x.ill(carrier, ill), m.ill(carrier, ill));
                break;
            case 2:
                int who = about(3);
                int roughness = about(9);
                due("rough(" + who + ", " + roughness + ")", x.rough(who, roughness), m.rough(who, roughness));
                break;
            case 3:
                int load = below(2) == 0 ? 1 + below(2) : about(8);
                due("load(" + load + ")", x.load(load), m.load(load));
                break;
            case 4:
            case 5:
                int from = about(5);
                int to = about(5);
                due("post(" + from + ", " + to + ")", x.post(from, to), m.post(from, to));
                break;
            case 6:
            case 7:
                int bundle = about(7);
                due("forget(" + bundle + ")", x.forget(bundle), m.forget(bundle));
                break;
            case 8:
                int days = about(30);
                due("pass(" + days + ")", x.pass(days), m.pass(days));
                break;
            default:
                int few = 1 + below(2);
                due("pass(" + few + ")", x.pass(few), m.pass(few));
                break;
        }
    }

    private void history() {
        switch (below(4)) {
            case 0:
                due("save()", x.save(), m.save());
                break;
            case 1:
                due("restore()", x.restore(), m.restore());
                break;
            default:
                due("undo()", x.undo(), m.undo());
                break;
        }
    }

    private void looks() {
        int number = about(7);
        switch (below(10)) {
            case 0:
                int carrier = about(3);
                int day = below(4) == 0 ? about(9999) : about(60);
                due("where(" + carrier + ", " + day + ")", x.where(carrier, day), m.where(carrier, day));
                break;
            case 1:
            case 2:
                int who = about(3);
                int part = about(6);
                due("carrier(" + who + ", " + part + ")", x.carrier(who, part), m.carrier(who, part));
                break;
            case 3:
            case 4:
                int what = about(8);
                due("bundle(" + number + ", " + what + ")", x.bundle(number, what), m.bundle(number, what));
                break;
            case 5:
            case 6:
                int way = about(1);
                due("arrival(" + number + ", " + way + ")", x.arrival(number, way), m.arrival(number, way));
                break;
            case 7:
                int one = about(3);
                int other = about(3);
                boolean stall = below(2) == 0;
                due("meeting(" + one + ", " + other + ", " + stall + ")", x.meeting(one, other, stall),
                    m.meeting(one, other, stall));
                break;
            case 8:
                int count = about(16);
                due("count(" + count + ")", x.count(count), m.count(count));
                break;
            default:
                due("lateness()", x.lateness(), m.lateness());
                break;
        }
    }

    private void whatWouldBe() {
        int from = about(5);
        int to = about(5);
        switch (below(4)) {
            case 0:
                int ahead = about(30);
                due("ifPosted(" + from + ", " + to + ", " + ahead + ")", x.ifPosted(from, to, ahead),
                    m.ifPosted(from, to, ahead));
                break;
            case 1:
                due("bestDay(" + from + ", " + to + ")", x.bestDay(from, to), m.bestDay(from, to));
                break;
            case 2:
                int weekday = about(6);
                due("bestTown(" + weekday + ")", x.bestTown(weekday), m.bestTown(weekday));
                break;
            default:
                int days = 1 + about(29);
                int what = about(2);
                due("ifPassed(" + days + ", " + what + ")", x.ifPassed(days, what), m.ifPassed(days, what));
                break;
        }
    }
}
