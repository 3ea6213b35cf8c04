import java.util.function.Supplier;

/**
 * Each argument at both ends of its range, and one below and one above: what is out of it is
 * INVALID_ARGUMENT, and leaves everything (the pad, the history and the snapshot, too) as it was.
 */
public final class RangesTest {
    private static final Due DUE = new Due("RangesTest");

    private interface Call {
        int on(MovedStalls x, int argument);
    }

    public static void main(String[] args) {
        promise2Stall();
        promise3Ill();
        promise4Rough();
        promise5Load();
        promise6Post();
        promise7Forget();
        promise8Pass();
        promise9Append();
        promise11Fault();
        promise14Where();
        promise15Carrier();
        promise16Bundle();
        promise17Arrival();
        promise18Meeting();
        promise19Count();
        promise21IfPosted();
        promise22BestDay();
        promise23BestTown();
        promise24IfPassed();
        noCarrier();
        noBundle();
        theFourthCarrier();
        theEighthBundle();
        DUE.end();
    }

    /** Two carriers, three bundles, four states, a snapshot, and a letter on the pad, on the day 1. */
    private static MovedStalls some() {
        MovedStalls x = Due.with("01*7;102*5", "0>2,1>2,5>4");
        x.pass(1);
        x.load(2);
        x.save();
        x.stall(3, 5);
        x.rough(0, 6);
        Due.type(x, "1>0");
        return x;
    }

    /** One carrier, who is in the town 0 on the day 0, in 1 on 1, and so on; letters on the pad. */
    private static MovedStalls round() {
        MovedStalls x = Due.withTours("012345");
        Due.type(x, "4>5,5>4");
        return x;
    }

    private static void range(String call, Supplier<MovedStalls> state, int least, int atLeast, int greatest,
            int atGreatest, Call asked) {
        DUE.is(call + ", the least, " + least, asked.on(state.get(), least), atLeast);
        DUE.is(call + ", the greatest, " + greatest, asked.on(state.get(), greatest), atGreatest);
        int[] outside = {least - 1, greatest + 1, Integer.MIN_VALUE, Integer.MAX_VALUE};
        for (int wrong : outside) {
            DUE.refused(call + ", " + wrong, state, x -> asked.on(x, wrong), -1);
        }
    }

    private static void promise2Stall() {
        range("stall: weekday", RangesTest::some, 0, 0, 6, 0, (x, n) -> x.stall(n, 1));
        range("stall: town", RangesTest::some, 0, 5, 6, 5, (x, n) -> x.stall(3, n));
        for (int town = 0; town <= 6; town++) {
            MovedStalls x = some();
            x.stall(1, town);
            DUE.is("stands in " + town, x.count(1), town == 6 ? -4 : town);
            DUE.is("stood in " + town, x.stall(1, 0), town);
        }
    }

    private static void promise3Ill() {
        range("ill: carrier", RangesTest::some, 0, 3, 1, 3, (x, n) -> x.ill(n, 1));
        range("ill: days", RangesTest::some, 0, 0, 30, 32, (x, n) -> x.ill(1, n));
        DUE.is("ill: 1 day", some().ill(1, 1), 3);
        DUE.is("ill: 29 days", some().ill(1, 29), 31);
    }

    private static void promise4Rough() {
        range("rough: carrier", RangesTest::some, 0, 6, 1, 5, (x, n) -> x.rough(n, 0));
        range("rough: roughness", RangesTest::some, 0, 5, 9, 5, (x, n) -> x.rough(1, n));
        for (int roughness = 0; roughness <= 9; roughness++) {
            MovedStalls x = some();
            x.rough(1, roughness);
            DUE.is("is rough", x.carrier(1, 1), roughness);
        }
    }

    private static void promise5Load() {
        range("load", RangesTest::some, 1, 2, 8, 2, MovedStalls::load);
        for (int load = 1; load <= 8; load++) {
            MovedStalls x = some();
            x.load(load);
            DUE.is("is LOAD", x.count(13), load);
        }
    }

    private static void promise6Post() {
        range("post: from", RangesTest::round, 0, 10, 5, 10, (x, n) -> x.post(n, 4));
        range("post: to", RangesTest::round, 0, 6, 5, 5, (x, n) -> x.post(3, n));
        for (int town = 0; town <= 5; town++) {
            int same = town;
            DUE.refused("post into its own town " + town, RangesTest::round, x -> x.post(same, same), -1);
        }
    }

    private static void promise7Forget() {
        range("forget", RangesTest::some, 0, 2, 2, 2, MovedStalls::forget);
    }

    private static void promise8Pass() {
        range("pass", RangesTest::some, 1, 1, 30, 2, MovedStalls::pass);
        for (int days = 1; days <= 30; days++) {
            MovedStalls x = some();
            x.pass(days);
            DUE.is("days that have passed", x.count(0), 1 + days);
        }
    }

    private static void promise9Append() {
        range("append", RangesTest::some, 33, 4, 126, 4, MovedStalls::append);
        for (int code = 0; code <= 255; code++) {
            int want = code >= 33 && code <= 126 ? 1 : -1;
            DUE.is("append(" + code + ")", new MovedStalls().append(code), want);
        }
    }

    private static void promise11Fault() {
        range("fault", RangesTest::some, 0, 1, 1, -4, MovedStalls::fault);
    }

    private static void promise14Where() {
        range("where: carrier", RangesTest::some, 0, 0, 1, 2, (x, n) -> x.where(n, 2));
        range("where: day", RangesTest::some, 0, 1, 9999, 1, (x, n) -> x.where(1, n));
    }

    private static void promise15Carrier() {
        range("carrier: carrier", RangesTest::some, 0, 2, 1, 3, (x, n) -> x.carrier(n, 0));
        range("carrier: what", RangesTest::some, 0, 3, 6, 1, (x, n) -> x.carrier(1, n));
    }

    private static void promise16Bundle() {
        range("bundle: bundle", RangesTest::some, 0, 2, 2, 4, (x, n) -> x.bundle(n, 0));
        range("bundle: what", RangesTest::some, 0, 4, 8, 0, (x, n) -> x.bundle(2, n));
    }

    private static void promise17Arrival() {
        range("arrival: bundle", RangesTest::some, 0, 2, 2, -4, (x, n) -> x.arrival(n, 0));
        range("arrival: bundle, told forward", RangesTest::some, 0, 2, 2, -4, (x, n) -> x.arrival(n, 1));
        range("arrival: way", RangesTest::some, 0, 5, 1, 5, (x, n) -> x.arrival(1, n));
    }

    private static void promise18Meeting() {
        range("meeting: carrier", RangesTest::some, 0, 3, 0, 3, (x, n) -> x.meeting(n, 1, false));
        range("meeting: other", RangesTest::some, 1, 3, 1, 3, (x, n) -> x.meeting(0, n, false));
        range("meeting: other, at the stall", RangesTest::some, 0, 4, 0, 4, (x, n) -> x.meeting(1, n, true));
    }

    private static void promise19Count() {
        range("count", RangesTest::some, 0, 1, 16, 4, MovedStalls::count);
    }

    private static void promise21IfPosted() {
        range("ifPosted: from", RangesTest::round, 0, 10, 5, 10, (x, n) -> x.ifPosted(n, 4, 0));
        range("ifPosted: to", RangesTest::round, 0, 6, 5, 5, (x, n) -> x.ifPosted(3, n, 0));
        range("ifPosted: day", RangesTest::round, 0, 2, 30, 32, (x, n) -> x.ifPosted(1, 2, n));
        DUE.refused("ifPosted: the same town", RangesTest::round, x -> x.ifPosted(2, 2, 0), -1);
    }

    private static void promise22BestDay() {
        range("bestDay: from", RangesTest::round, 0, 5, 5, 4, (x, n) -> x.bestDay(n, 4));
        range("bestDay: to", RangesTest::round, 0, 2, 5, 2, (x, n) -> x.bestDay(3, n));
        DUE.refused("bestDay: the same town", RangesTest::round, x -> x.bestDay(2, 2), -1);
    }

    private static void promise23BestTown() {
        range("bestTown", RangesTest::some, 0, 0, 6, 0, MovedStalls::bestTown);
    }

    private static void promise24IfPassed() {
        range("ifPassed: days", RangesTest::some, 1, 1, 30, 2, (x, n) -> x.ifPassed(n, 0));
        range("ifPassed: what", RangesTest::some, 0, 2, 2, 1, (x, n) -> x.ifPassed(30, n));
    }

    private static void noCarrier() {
        Supplier<MovedStalls> none = MovedStalls::new;
        DUE.refused("no carrier: ill(0, 0)", none, x -> x.ill(0, 0), -1);
        DUE.refused("no carrier: rough(0, 0)", none, x -> x.rough(0, 0), -1);
        DUE.refused("no carrier: where(0, 0)", none, x -> x.where(0, 0), -1);
        DUE.refused("no carrier: carrier(0, 0)", none, x -> x.carrier(0, 0), -1);
        DUE.refused("no carrier: meeting(0, 1, false)", none, x -> x.meeting(0, 1, false), -1);
        Supplier<MovedStalls> one = () -> Due.withTours("0");
        DUE.refused("one carrier: meeting(0, 1, false)", one, x -> x.meeting(0, 1, false), -1);
        DUE.refused("one carrier: ill(1, 1)", one, x -> x.ill(1, 1), -1);
    }

    private static void noBundle() {
        Supplier<MovedStalls> none = () -> Due.withTours("01");
        DUE.refused("no bundle: forget(0)", none, x -> x.forget(0), -1);
        DUE.refused("no bundle: bundle(0, 0)", none, x -> x.bundle(0, 0), -1);
        DUE.refused("no bundle: arrival(0, 0)", none, x -> x.arrival(0, 0), -1);
        DUE.refused("no bundle: arrival(0, 1)", none, x -> x.arrival(0, 1), -1);
        MovedStalls x = none.get();
        x.post(0, 1);
        x.forget(0);
        DUE.is("forgotten: bundle(0, 0)", x.bundle(0, 0), -1);
        DUE.is("forgotten: arrival(0, 0)", x.arrival(0, 0), -1);
        DUE.is("forgotten: forget(0)", x.forget(0), -1);
    }

    private static void theFourthCarrier() {
        Supplier<MovedStalls> four = () -> Due.withTours("0;1;2;345*6");
        range("of four: ill", four, 0, 2, 3, 2, (x, n) -> x.ill(n, 1));
        range("of four: rough", four, 0, 0, 3, 6, (x, n) -> x.rough(n, 1));
        range("of four: where", four, 0, 0, 3, 4, (x, n) -> x.where(n, 1));
        range("of four: carrier", four, 0, 1, 3, 3, (x, n) -> x.carrier(n, 0));
        range("of four: meeting, other", four, 1, -4, 3, -4, (x, n) -> x.meeting(0, n, false));
        range("of four: meeting, carrier", four, 0, -4, 2, -4, (x, n) -> x.meeting(n, 3, true));
        DUE.refused("of four: meeting(4, 0, false)", four, x -> x.meeting(4, 0, false), -1);
    }

    private static void theEighthBundle() {
        Supplier<MovedStalls> eight = () -> Due.with("50", "0>1,1>2,2>3,3>4,4>5,5>1,5>2,5>0");
        range("of eight: forget", eight, 0, 7, 7, 7, MovedStalls::forget);
        range("of eight: bundle", eight, 0, 1, 7, 0, (x, n) -> x.bundle(n, 0));
        range("of eight: arrival", eight, 0, -4, 7, 3, (x, n) -> x.arrival(n, 0));
        range("of eight: arrival, told forward", eight, 0, -4, 7, 3, (x, n) -> x.arrival(n, 1));
        MovedStalls x = eight.get();
        x.forget(0);
        DUE.is("seven are left: bundle(6, 0)", x.bundle(6, 0), 0);
        DUE.is("seven are left: bundle(7, 0)", x.bundle(7, 0), -1);
        DUE.is("seven are left: forget(7)", x.forget(7), -1);
    }
}
