import java.util.function.Supplier;
import java.util.function.ToIntFunction;

/** Compares answers with those that are due, and ends the test with exit code 1 if one is not. */
final class Due {
    // Ahead of all days on which a carrier is ill in these tests: the tour alone is seen there.
    private static final int FAR_DAY = 9993;

    private final String test;
    private int asked;
    private int wrong;

    Due(String test) {
        this.test = test;
    }

    void is(String call, long got, long want) {
        asked++;
        if (got != want) {
            wrong++;
            System.out.println(test + ": " + call + " answered " + got + ", due is " + want);
        }
    }

    void is(String call, double got, double want) {
        asked++;
        if (Double.compare(got, want) != 0) {
            wrong++;
            System.out.println(test + ": " + call + " answered " + got + ", due is " + want);
        }
    }

    void is(String call, String got, String want) {
        asked++;
        if (!got.equals(want)) {
            wrong++;
            System.out.println(test + ": " + call + " answered " + got + ", due is " + want);
        }
    }

    int wrongSoFar() {
        return wrong;
    }

    void end() {
        System.out.println(test + ": " + asked + " answers, " + wrong + " not as due");
        if (wrong != 0 || asked == 0) {
            System.exit(1);
        }
    }

    /** Puts a text on the pad in place of what is there. */
    static void type(MovedStalls x, String text) {
        x.clear();
        for (int i = 0; i < text.length(); i++) {
            x.append(text.charAt(i));
        }
    }

    static MovedStalls withTours(String text) {
        MovedStalls x = new MovedStalls();
        type(x, text);
        x.tours();
        return x;
    }

    static MovedStalls with(String tours, String letters) {
        MovedStalls x = withTours(tours);
        type(x, letters);
        x.letters();
        return x;
    }

    /** All numbers that can be looked at, so that two states can be compared as texts. */
    static String looks(MovedStalls x) {
        StringBuilder all = new StringBuilder();
        for (int what = 0; what <= 14; what++) {
            all.append(x.count(what)).append(' ');
        }
        for (int c = 0; c < x.count(2); c++) {
            all.append("\n carrier ").append(c).append(':');
            for (int what = 0; what <= 6; what++) {
                all.append(' ').append(x.carrier(c, what));
            }
            for (int day = FAR_DAY; day < FAR_DAY + 7; day++) {
                all.append(' ').append(x.where(c, day));
            }
        }
        for (int b = 0; b < x.count(4); b++) {
            all.append("\n bundle ").append(b).append(':');
            for (int what = 0; what <= 8; what++) {
                all.append(' ').append(x.bundle(b, what));
            }
            all.append(' ').append(x.arrival(b, 0)).append(' ').append(x.arrival(b, 1));
        }
        return all.append("\n late ").append(x.lateness()).toString();
    }

    /** The call returns this error, and everything stays as it was. */
    void refused(String call, Supplier<MovedStalls> state, ToIntFunction<MovedStalls> asked, int error) {
        is(call, asked.applyAsInt(state.get()), error);
        is(call + ": what stays", whole(state, asked), whole(state, x -> 0));
    }

    /** All that can be told behind a call; the past on an object of its own, as the asking changes it. */
    static String whole(Supplier<MovedStalls> state, ToIntFunction<MovedStalls> asked) {
        MovedStalls x = state.get();
        asked.applyAsInt(x);
        MovedStalls y = state.get();
        asked.applyAsInt(y);
        return present(x) + past(y);
    }

    private static String present(MovedStalls x) {
        StringBuilder all = new StringBuilder(looks(x));
        all.append("\n pad ").append(x.count(15)).append(' ').append(x.fault(0)).append(' ').append(x.fault(1));
        all.append("\n states ").append(x.count(16)).append("\n stalls");
        for (int weekday = 0; weekday <= 6; weekday++) {
            all.append(' ').append(x.stall(weekday, 0));
        }
        return all.toString();
    }

    /** The states of the history, the snapshot, and last what stands on the pad. */
    private static String past(MovedStalls x) {
        StringBuilder all = new StringBuilder("\n history");
        for (int i = 0; i < 5; i++) {
            all.append(' ').append(x.undo()).append(':').append(counts(x));
        }
        all.append("\n snapshot ").append(x.restore()).append(':').append(counts(x));
        all.append("\n pad as letters ").append(x.letters()).append(", as tours ").append(x.tours()).append(':');
        for (int b = 0; b < x.count(4); b++) {
            all.append(' ').append(x.bundle(b, 8)).append('/').append(x.bundle(b, 0)).append('/').append(x.bundle(b, 4));
        }
        for (int c = 0; c < x.count(2); c++) {
            all.append(' ').append(x.carrier(c, 0)).append('*').append(x.carrier(c, 1));
        }
        return all.toString();
    }

    private static String counts(MovedStalls x) {
        StringBuilder all = new StringBuilder();
        for (int what = 0; what <= 14; what++) {
            all.append(x.count(what)).append(' ');
        }
        return all.append(x.lateness()).toString();
    }
}
