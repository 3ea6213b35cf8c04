/** Compares answers with those that are due, and ends the test with exit code 1 if one is not. */
final class Due {
    private final String test;
    private int asked;
    private int wrong;

    Due(String test) {
        this.test = test;
    }

    void is(String call, long got, long want) {
        asked++;
        if (got != want) {
            wrong++;
            System.out.println(test + ": " + call + " answered " + got + ", due is " + want);
        }
    }

    void is(String call, double got, double want) {
        asked++;
        if (Double.compare(got, want) != 0) {
            wrong++;
            System.out.println(test + ": " + call + " answered " + got + ", due is " + want);
        }
    }

    void is(String call, String got, String want) {
        asked++;
        if (!got.equals(want)) {
            wrong++;
            System.out.println(test + ": " + call + " answered " + got + ", due is " + want);
        }
    }

    int wrongSoFar() {
        return wrong;
    }

    void end() {
        System.out.println(test + ": " + asked + " answers, " + wrong + " not as due");
        if (wrong != 0 || asked == 0) {
            System.exit(1);
        }
    }

    /** Puts a text on the pad in place of what is there. */
    static void type(MovedStalls x, String text) {
        x.clear();
        for (int i = 0; i < text.length(); i++) {
            x.append(text.charAt(i));
        }
    }

    static MovedStalls withTours(String text) {
        MovedStalls x = new MovedStalls();
        type(x, text);
        x.tours();
        return x;
    }

    static MovedStalls with(String tours, String letters) {
        MovedStalls x = withTours(tours);
        type(x, letters);
        x.letters();
        return x;
    }

    /** All numbers that can be looked at, so that two states can be compared as texts. */
    static String looks(MovedStalls x) {
        StringBuilder all = new StringBuilder();
        for (int what = 0; what <= 14; what++) {
            all.append(x.count(what)).append(' ');
        }
        for (int c = 0; c < x.count(2); c++) {
            all.append("\n carrier ").append(c).append(':');
            for (int what = 0; what <= 6; what++) {
                all.append(' ').append(x.carrier(c, what));
            }
            for (int day = 0; day < 50; day++) {
                all.append(' ').append(x.where(c, day));
            }
        }
        for (int b = 0; b < x.count(4); b++) {
            all.append("\n bundle ").append(b).append(':');
            for (int what = 0; what <= 8; what++) {
                all.append(' ').append(x.bundle(b, what));
            }
            all.append(' ').append(x.arrival(b, 0)).append(' ').append(x.arrival(b, 1));
        }
        return all.append("\n late ").append(x.lateness()).toString();
    }
}
