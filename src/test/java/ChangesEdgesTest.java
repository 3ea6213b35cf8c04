import java.util.function.Supplier;
import java.util.function.ToIntFunction;

/** "Changes and errors", the promises 25 to 27, and the 512 calls: a test for each sentence that names an edge. */
public final class ChangesEdgesTest {
    private static final Due DUE = new Due("ChangesEdgesTest");
    private static final int CALLS = 512;

    public static void main(String[] args) {
        eachChangeRecords();
        alsoIfNothingIsDifferent();
        aPostWithoutAPromiseIsAChange();
        atMost4States();
        theOldestOneIsDropped();
        whatIsNoChange();
        arrivedOnesAreAmongThe8();
        invalidArgumentBeforeLimitReached();
        invalidArgumentBeforeNotFound();
        notPossibleBeforeLimitReached();
        limitReachedBeforeNotFound();
        errorsChangeNothing();
        promise25AsItWasBeforeIt();
        promise25And27OnEachWeekday();
        promise25And27OfOtherBundles();
        promise27WhatComesThenIsNew();
        promise25And27WhoIsGoneDoesNothing();
        promise25And27WhatIsGoneIsWithNobody();
        promise25ButThePad();
        promise25ButTheSnapshot();
        promise25AnEmptyHistory();
        promise25StatesThen();
        promise26EverythingButThePadAndTheHistory();
        promise26InPlaceOfTheOneThatWas();
        promise26IsNoChange();
        promise27NoSnapshot();
        promise27TheSnapshotStays();
        promise27IsAChange();
        promise27ThePadAndTheHistoryStay();
        theLastOf512Calls();
        changesUpToTheLastCall();
        daysFarAhead();
        objectsApart();
        DUE.end();
    }

    /** Two carriers, three bundles, three states, a snapshot of the day 1, and a letter on the pad, on the day 2. */
    private static MovedStalls some() {
        MovedStalls x = Due.with("01*7;102*5", "0>2,1>2,5>4");
        x.pass(1);
        x.save();
        x.undo();
        x.pass(2);
        Due.type(x, "0>1");
        return x;
    }

    private static MovedStalls typed(MovedStalls x, String text) {
        Due.type(x, text);
        return x;
    }

    /** The calls that change something, if none of them returns an error. */
    private static int change(MovedStalls x, int which) {
        switch (which) {
            case 0:
                return x.stall(3, 4);
            case 1:
                return x.ill(0, 7);
            case 2:
                return x.rough(1, 2);
            case 3:
                return x.post(0, 2);
            case 4:
                return x.forget(1);
            case 5:
                return x.pass(2);
            case 6:
                return x.load(5);
            case 7:
                return typed(x, "3;45*6").tours();
            case 8:
                return typed(x, "1>0,2>0").letters();
            default:
                return x.restore();
        }
    }

    /** "The changes are the calls of stall, ill, rough, post, forget, pass, load, tours, letters and restore" */
    private static void eachChangeRecords() {
        for (int which = 0; which <= 9; which++) {
            MovedStalls x = some();
            int states = x.count(16);
            change(x, which);
            DUE.is("change " + which + ": one state more", x.count(16), states + 1);
            DUE.is("change " + which + ": undo()", x.undo(), states);
        }
    }

    /** "each change records everything before it .. (also if nothing is different then)" */
    private static void alsoIfNothingIsDifferent() {
        same("stall", x -> x.stall(2, 0));
        same("ill", x -> x.ill(0, 0));
        same("rough", x -> x.rough(1, 5));
        same("load", x -> x.load(3));
        MovedStalls x = some();
        x.undo();
        x.restore();
        int states = x.count(16);
        String before = Due.looks(x);
        DUE.is("restore() again", x.restore(), 1);
        DUE.is("restore() again: nothing is different", Due.looks(x), before);
        DUE.is("restore() again: a state more", x.count(16), states + 1);
    }

    private static void same(String call, ToIntFunction<MovedStalls> asked) {
        MovedStalls x = some();
        int states = x.count(16);
        String before = Due.looks(x);
        asked.applyAsInt(x);
        DUE.is(call + ": nothing is different", Due.looks(x), before);
        DUE.is(call + ": a state more", x.count(16), states + 1);
        DUE.is(call + ": undo()", x.undo(), states);
        DUE.is(call + ": undone", Due.looks(x), before);
    }

    /** "NOT_FOUND if it has none (it is posted all the same, and this is a change)" */
    private static void aPostWithoutAPromiseIsAChange() {
        MovedStalls x = new MovedStalls();
        for (int b = 1; b <= 8; b++) {
            DUE.is("post without a promise", x.post(0, 1), -4);
            DUE.is("is posted", x.count(4), b);
            DUE.is("so far", x.count(9), b);
            DUE.is("is a change", x.count(16), b < 4 ? b : 4);
        }
        for (int states = 3; states >= 0; states--) {
            DUE.is("undo()", x.undo(), states);
            DUE.is("undone", x.count(4), 4 + states);
        }
        DUE.is("the bundles before are too long ago", x.undo(), -2);
    }

    /** "A history of at most 4 states is kept" */
    private static void atMost4States() {
        for (int changes = 0; changes <= 12; changes++) {
            MovedStalls x = new MovedStalls();
            for (int i = 1; i <= changes; i++) {
                x.pass(i);
            }
            int states = Math.min(4, changes);
            DUE.is(changes + " changes", x.count(16), states);
            for (int left = states - 1; left >= 0; left--) {
                DUE.is(changes + " changes: undo()", x.undo(), left);
            }
            DUE.is(changes + " changes: one more undo()", x.undo(), -2);
            int last = changes - states;
            DUE.is(changes + " changes: the day", x.count(0), last * (last + 1) / 2);
        }
    }

    /** "if there are 5 states then, the oldest one is dropped" */
    private static void theOldestOneIsDropped() {
        // From four states on each change drops one: what is left is the four latest ones.
        for (int which = 0; which <= 9; which++) {
            MovedStalls x = some();
            x.load(4);
            x.load(5);
            x.load(6);
            x.load(7);
            change(x, which);
            DUE.is("a fifth change: states", x.count(16), 4);
            int[] loads = {7, 6, 5, 4};
            for (int i = 0; i < 4; i++) {
                DUE.is("a fifth change: undo()", x.undo(), 3 - i);
                DUE.is("a fifth change: LOAD", x.count(13), loads[i]);
            }
            DUE.is("the oldest one is dropped", x.undo(), -2);
            DUE.is("LOAD stays", x.count(13), 4);
        }
    }

    private static void whatIsNoChange() {
        MovedStalls x = some();
        int states = x.count(16);
        x.append('2');
        x.fault(0);
        x.fault(1);
        x.clear();
        x.save();
        x.where(0, 1);
        x.carrier(0, 1);
        x.bundle(0, 1);
        x.arrival(0, 1);
        x.meeting(0, 1, true);
        x.count(1);
        x.lateness();
        x.ifPosted(0, 1, 1);
        x.bestDay(0, 1);
        x.bestTown(1);
        x.ifPassed(30, 1);
        DUE.is("what is no change", x.count(16), states);
        x.undo();
        DUE.is("undo() is none", x.count(16), states - 1);
    }

    /** "There are at most 8 bundles": those that have arrived among them. */
    private static void arrivedOnesAreAmongThe8() {
        Supplier<MovedStalls> state = () -> {
            MovedStalls x = Due.with("01", "0>1,0>1,0>1,0>1,5>4,5>4,5>4,5>4");
            x.pass(3);
            Due.type(x, "0>1");
            return x;
        };
        DUE.is("three of them have arrived", state.get().count(7), 3);
        DUE.refused("a ninth one by post()", state, x -> x.post(0, 1), -3);
        DUE.refused("a ninth one by letters()", state, MovedStalls::letters, -3);
        MovedStalls y = state.get();
        y.forget(0);
        DUE.is("one forgotten", y.letters(), 8);
    }

    private static MovedStalls eightBundles() {
        MovedStalls x = new MovedStalls();
        for (int b = 0; b < 8; b++) {
            x.post(b % 6, (b + 1) % 6);
        }
        Due.type(x, "0>1");
        return x;
    }

    /** "INVALID_ARGUMENT is returned rather than NOT_POSSIBLE", and so than LIMIT_REACHED */
    private static void invalidArgumentBeforeLimitReached() {
        Supplier<MovedStalls> eight = ChangesEdgesTest::eightBundles;
        int[][] wrong = {{-1, 0}, {6, 0}, {0, -1}, {0, 6}, {3, 3}};
        for (int[] pair : wrong) {
            DUE.refused("a ninth one, and wrong", eight, x -> x.post(pair[0], pair[1]), -1);
        }
        Supplier<MovedStalls> sixty = () -> typed(some(), "0>1,".repeat(15));
        DUE.refused("a 61st one, and wrong: 32", sixty, x -> x.append(32), -1);
        DUE.refused("a 61st one, and wrong: 127", sixty, x -> x.append(127), -1);
        DUE.refused("a 61st one", sixty, x -> x.append(33), -3);
    }

    private static void invalidArgumentBeforeNotFound() {
        Supplier<MovedStalls> ill = () -> {
            MovedStalls x = some();
            x.ill(0, 9);
            return x;
        };
        DUE.refused("ill: where", ill, x -> x.where(0, 2), -4);
        DUE.refused("ill, and wrong: where, -1", ill, x -> x.where(0, -1), -1);
        DUE.refused("ill, and wrong: where, 10000", ill, x -> x.where(0, 10000), -1);
        DUE.refused("no arrival: arrival", ill, x -> x.arrival(2, 1), -4);
        DUE.refused("no arrival, and wrong: arrival", ill, x -> x.arrival(2, 2), -1);
        DUE.refused("no fault: fault", ill, x -> x.fault(1), -4);
        DUE.refused("no fault, and wrong: fault", ill, x -> x.fault(2), -1);
        DUE.refused("not with a carrier: bundle", ill, x -> x.bundle(2, 2), -4);
        DUE.refused("not with a carrier, and wrong: bundle", ill, x -> x.bundle(2, 9), -1);
        DUE.refused("no meeting, as both are the same", ill, x -> x.meeting(0, 0, true), -1);
        DUE.refused("no arrival: ifPosted", ill, x -> x.ifPosted(5, 3, 30), -4);
        DUE.refused("no arrival, and wrong: ifPosted, day", ill, x -> x.ifPosted(5, 3, 31), -1);
        DUE.refused("no arrival, and wrong: ifPosted, town", ill, x -> x.ifPosted(5, 6, 0), -1);
        DUE.refused("no arrival, and the same: ifPosted", ill, x -> x.ifPosted(5, 5, 0), -1);
        DUE.refused("no arrival: bestDay", ill, x -> x.bestDay(5, 3), -4);
        DUE.refused("no arrival, and the same: bestDay", ill, x -> x.bestDay(5, 5), -1);
        DUE.refused("no arrival, and wrong: bestDay", ill, x -> x.bestDay(6, 3), -1);
        DUE.refused("no stall: count", () -> {
            MovedStalls x = some();
            x.stall(2, 6);
            return x;
        }, x -> x.count(1), -4);
        DUE.refused("no bundle: post the same", ill, x -> x.post(5, 5), -1);
    }

    /** "NOT_POSSIBLE rather than LIMIT_REACHED" */
    private static void notPossibleBeforeLimitReached() {
        String[] tours = {"0;1;2;3;4;", "0;1;2;3;4*", "0;1;2;3;4;6", "x;1;2;3;4", "0;1;2;3;01234501", ""};
        for (String text : tours) {
            DUE.refused("a fault, and too many: tours() of " + text, () -> typed(some(), text), MovedStalls::tours, -2);
        }
        Supplier<MovedStalls> four = () -> typed(Due.withTours("0;1;2;3"), "6");
        DUE.refused("a fault, and four are here: tours()", four, MovedStalls::tours, -2);
        String nine = "0>1,".repeat(8);
        String[] letters = {nine, nine + "1", nine + "1>", nine + "1>1", nine + "1>2,", nine + "1>2;", "x" + nine, ""};
        for (String text : letters) {
            DUE.refused("a fault, and too many: letters() of " + text, () -> typed(some(), text), MovedStalls::letters,
                -2);
        }
        Supplier<MovedStalls> eight = () -> typed(eightBundles(), "0>0");
        DUE.refused("a fault, and eight are here: letters()", eight, MovedStalls::letters, -2);
        DUE.refused("a fault, and eight are here: letters() of nothing", () -> typed(eightBundles(), ""),
            MovedStalls::letters, -2);
    }

    /** "and LIMIT_REACHED rather than NOT_FOUND" */
    private static void limitReachedBeforeNotFound() {
        DUE.refused("a ninth one that has no promise", ChangesEdgesTest::eightBundles, x -> x.post(5, 4), -3);
        Supplier<MovedStalls> eight = () -> {
            MovedStalls x = Due.with("01", "0>1,".repeat(7) + "0>1");
            Due.type(x, "0>1");
            return x;
        };
        DUE.refused("a ninth one that would have a promise", eight, x -> x.post(0, 1), -3);
        DUE.refused("a ninth one by letters()", eight, MovedStalls::letters, -3);
    }

    /** "A call that returns an error changes nothing (the pad stays, too)." */
    private static void errorsChangeNothing() {
        Supplier<MovedStalls> some = ChangesEdgesTest::some;
        DUE.refused("stall(7, 3)", some, x -> x.stall(7, 3), -1);
        DUE.refused("stall(3, 7)", some, x -> x.stall(3, 7), -1);
        DUE.refused("ill(2, 3)", some, x -> x.ill(2, 3), -1);
        DUE.refused("ill(1, 31)", some, x -> x.ill(1, 31), -1);
        DUE.refused("rough(2, 3)", some, x -> x.rough(2, 3), -1);
        DUE.refused("rough(1, 10)", some, x -> x.rough(1, 10), -1);
        DUE.refused("load(9)", some, x -> x.load(9), -1);
        DUE.refused("post(1, 1)", some, x -> x.post(1, 1), -1);
        DUE.refused("forget(3)", some, x -> x.forget(3), -1);
        DUE.refused("pass(31)", some, x -> x.pass(31), -1);
        DUE.refused("append(127)", some, x -> x.append(127), -1);
        DUE.refused("fault(2)", some, x -> x.fault(2), -1);
        DUE.refused("tours() of letters", some, MovedStalls::tours, -2);
        DUE.refused("letters() of tours", () -> typed(some(), "01;5"), MovedStalls::letters, -2);
        DUE.refused("tours() of three", () -> typed(some(), "01;5;2*3"), MovedStalls::tours, -3);
        DUE.refused("letters() of six", () -> typed(some(), "0>1,1>2,2>3,3>4,4>5,5>0"), MovedStalls::letters, -3);
        DUE.refused("bestTown(7)", some, x -> x.bestTown(7), -1);
        DUE.refused("ifPassed(31, 0)", some, x -> x.ifPassed(31, 0), -1);
        DUE.refused("ifPassed(1, 3)", some, x -> x.ifPassed(1, 3), -1);
        DUE.refused("undo() of nothing", MovedStalls::new, MovedStalls::undo, -2);
        DUE.refused("undo() of nothing, with a pad and a snapshot", () -> {
            MovedStalls x = typed(new MovedStalls(), "01");
            x.save();
            return x;
        }, MovedStalls::undo, -2);
        DUE.refused("restore() of nothing", () -> typed(Due.withTours("01"), "0>1"), MovedStalls::restore, -2);
        DUE.refused("restore() of nothing, new", MovedStalls::new, MovedStalls::restore, -2);
    }

    /** "everything but the pad and the snapshot is as it was before it": counts, lots and numbers, too */
    private static void promise25AsItWasBeforeIt() {
        for (int n = 0; n <= 9; n++) {
            int which = n;
            String before = Due.whole(() -> typed(some(), ""), x -> 0);
            String behind = Due.whole(() -> typed(some(), ""), x -> {
                change(x, which);
                int states = x.undo();
                x.clear();
                return states;
            });
            DUE.is("change " + which + ", undone", behind, before);
        }
        MovedStalls x = some();
        String[] looks = new String[5];
        for (int i = 0; i < 4; i++) {
            looks[i] = counts(x);
            change(x, new int[] {5, 4, 8, 5}[i]);
        }
        for (int i = 3; i >= 0; i--) {
            x.undo();
            DUE.is("undone one after the other", counts(x), looks[i]);
        }
    }

    private static String counts(MovedStalls x) {
        StringBuilder all = new StringBuilder();
        for (int what = 0; what <= 14; what++) {
            all.append(x.count(what)).append(' ');
        }
        return all.toString();
    }

    private static void promise25And27OnEachWeekday() {
        for (int weekday = 0; weekday <= 6; weekday++) {
            MovedStalls x = new MovedStalls();
            x.stall(weekday, 2);
            x.save();
            x.stall(weekday, 3);
            x.undo();
            DUE.is("undone on weekday " + weekday, x.stall(weekday, 4), 2);
            x.restore();
            DUE.is("restored on weekday " + weekday, x.stall(weekday, 5), 2);
            x.undo();
            x.undo();
            DUE.is("restore() undone on weekday " + weekday, x.stall(weekday, 5), 4);
        }
    }

    private static void promise25And27OfOtherBundles() {
        MovedStalls x = Due.withTours("01*9;10*9");
        x.post(0, 1);
        x.post(1, 5);
        x.pass(2);
        String first = Due.looks(x);
        x.save();
        x.forget(0);
        x.forget(0);
        x.post(2, 3);
        String second = Due.looks(x);
        DUE.is("restore()", x.restore(), 2);
        DUE.is("the first ones", Due.looks(x), first);
        x.undo();
        DUE.is("the other one", Due.looks(x), second);
        x.undo();
        x.undo();
        x.undo();
        DUE.is("the first ones, undone", Due.looks(x), first);
    }

    /** Carriers and bundles that are gone by restore() leave nothing to those that come then. */
    private static void promise27WhatComesThenIsNew() {
        MovedStalls x = new MovedStalls();
        x.save();
        Due.type(x, "01*9");
        x.tours();
        x.post(0, 1);
        x.pass(2);
        x.ill(0, 9);
        int[] was = {2, 9, 1, 0, 12, 1, 1};
        told(x, "before restore()", was, new int[] {1, -4, 0, -4, 3, 1010, 1, 1, 0});
        DUE.is("restore()", x.restore(), 0);
        DUE.is("no carrier", x.carrier(0, 0), -1);
        DUE.is("no bundle", x.bundle(0, 0), -1);
        Due.type(x, "5");
        x.tours();
        x.post(2, 3);
        told(x, "what is new", new int[] {1, 0, 0, 0, 0, 0, 0}, new int[] {3, 2, -4, -4, -4, -4, 0, 0, 0});
    }

    /** Carriers that are gone by undo() or restore() take nothing, bring nothing, and meet nobody. */
    private static void promise25And27WhoIsGoneDoesNothing() {
        String[] stay = {"", "3", "3;3", "3;3;3"};
        for (int number = 0; number <= 3; number++) {
            for (int back = 0; back <= 1; back++) {
                MovedStalls x = Due.withTours(stay[number]);
                x.save();
                Due.type(x, "30;50;03;50".substring(0, 11 - 3 * number));
                x.tours();
                DUE.is("while they are here: post(3, 0)", x.post(3, 0), number <= 1 ? 2 : 3);
                goBack(x, back);
                whoIsGoneDoesNothing((back == 0 ? "undo(), " : "restore(), ") + number + " stay", x, number);
            }
        }
    }

    private static void goBack(MovedStalls x, int back) {
        if (back == 0) {
            x.undo();
            x.undo();
        } else {
            x.restore();
        }
    }

    private static void whoIsGoneDoesNothing(String when, MovedStalls x, int number) {
        DUE.is(when + ": carriers", x.count(2), number);
        DUE.is(when + ": meeting()", x.meeting(0, number, false), -1);
        DUE.is(when + ": post(3, 0)", x.post(3, 0), -4);
        DUE.is(when + ": post(3, 5)", x.post(3, 5), -4);
        for (int b = 0; b <= 1; b++) {
            DUE.is(when + ": arrival(" + b + ", 0)", x.arrival(b, 0), -4);
            DUE.is(when + ": arrival(" + b + ", 1)", x.arrival(b, 1), -4);
        }
        DUE.is(when + ": ifPosted()", x.ifPosted(3, 0, 1), -4);
        DUE.is(when + ": bestDay()", x.bestDay(3, 0), -4);
        DUE.is(when + ": ifPassed()", x.ifPassed(30, 1), 0);
        DUE.is(when + ": pass()", x.pass(30), 0);
        DUE.is(when + ": it lies", x.count(5), 2);
    }

    private static void promise25And27WhatIsGoneIsWithNobody() {
        for (int back = 0; back <= 1; back++) {
            MovedStalls x = Due.withTours("01*9");
            x.save();
            Due.type(x, "0>1,0>1,0>1");
            x.letters();
            x.pass(2);
            DUE.is("while they are here: full", x.carrier(0, 3), 1);
            goBack(x, back);
            for (int what = 4; what <= 12; what++) {
                DUE.is("gone: count(" + what + ")", x.count(what), 0);
            }
            DUE.is("gone: carrier(0, 2)", x.carrier(0, 2), 0);
            DUE.is("gone: full", x.carrier(0, 3), 0);
            DUE.is("gone: lateness()", x.lateness(), 0.0);
            DUE.is("gone: ifPassed()", x.ifPassed(30, 0), 0);
            DUE.is("gone: pass()", x.pass(30), 0);
        }
    }

    private static void told(MovedStalls x, String when, int[] carrier, int[] bundle) {
        for (int what = 0; what < carrier.length; what++) {
            DUE.is(when + ": carrier(0, " + what + ")", x.carrier(0, what), carrier[what]);
        }
        for (int what = 0; what < bundle.length; what++) {
            DUE.is(when + ": bundle(0, " + what + ")", x.bundle(0, what), bundle[what]);
        }
    }

    private static void promise25ButThePad() {
        MovedStalls x = Due.withTours("01");
        Due.type(x, "0>1");
        x.load(5);
        Due.type(x, "1>0,0>1");
        DUE.is("undo()", x.undo(), 1);
        DUE.is("the pad is as it is now", x.count(15), 7);
        x.letters();
        DUE.is("undo() of letters()", x.undo(), 1);
        DUE.is("the pad is empty still", x.count(15), 0);
        DUE.is("nothing to post", x.letters(), -2);
        DUE.is("undo() of tours()", x.undo(), 0);
        DUE.is("no carrier", x.count(2), 0);
        DUE.is("the pad is empty still", x.fault(0), 0);
    }

    private static void promise25ButTheSnapshot() {
        MovedStalls x = new MovedStalls();
        x.load(5);
        x.save();
        x.load(6);
        DUE.is("undo()", x.undo(), 1);
        DUE.is("undo()", x.undo(), 0);
        DUE.is("restore(): the snapshot is there still", x.restore(), 0);
        DUE.is("LOAD of the snapshot", x.count(13), 5);
        DUE.is("undo() of restore()", x.undo(), 0);
        DUE.is("LOAD before it", x.count(13), 3);
        DUE.is("restore() again", x.restore(), 0);
        DUE.is("LOAD of the snapshot again", x.count(13), 5);
    }

    /** "NOT_POSSIBLE if it has none" */
    private static void promise25AnEmptyHistory() {
        MovedStalls x = new MovedStalls();
        DUE.is("new", x.undo(), -2);
        DUE.is("new, again", x.undo(), -2);
        x.pass(1);
        DUE.is("one change", x.undo(), 0);
        DUE.is("none any more", x.undo(), -2);
        DUE.is("the day", x.count(0), 0);
        x.save();
        DUE.is("behind save()", x.undo(), -2);
        x.append('0');
        DUE.is("behind append()", x.undo(), -2);
        x.tours();
        DUE.is("behind tours()", x.undo(), 0);
        DUE.is("none at last", x.undo(), -2);
    }

    /** "Returns how many states the history has then" */
    private static void promise25StatesThen() {
        MovedStalls x = new MovedStalls();
        // Three changes and two undos a round: the history goes round its four places.
        int[] want = {2, 1, 3, 2, 3, 2, 3, 2, 3, 2, 3, 2};
        for (int round = 0; round < 6; round++) {
            x.load(1);
            x.load(2);
            x.load(3);
            DUE.is("undo() of round " + round, x.undo(), want[2 * round]);
            DUE.is("LOAD", x.count(13), 2);
            DUE.is("undo() more of round " + round, x.undo(), want[2 * round + 1]);
            DUE.is("LOAD", x.count(13), 1);
        }
    }

    /** "Takes a snapshot of everything but the pad and the history" */
    private static void promise26EverythingButThePadAndTheHistory() {
        for (int n = 0; n <= 8; n++) {
            MovedStalls x = some();
            change(x, n);
            String saved = Due.looks(x);
            int today = x.count(0);
            DUE.is("save()", x.save(), today);
            x.pass(9);
            x.stall(0, 3);
            DUE.is("restore()", x.restore(), today);
            DUE.is("what was saved behind change " + n, Due.looks(x), saved);
        }
        MovedStalls y = Due.with("01*9", "0>1");
        y.pass(3);
        y.save();
        y.undo();
        y.undo();
        y.undo();
        y.restore();
        DUE.is("the lot", y.count(14), 2084);
        DUE.is("posted", y.count(9), 1);
        DUE.is("arrivals", y.count(10), 1);
        DUE.is("the changes of the carrier", y.carrier(0, 5), 1);
        DUE.is("the seals of the carrier", y.carrier(0, 6), 1);
        DUE.is("the states are those before restore()", y.count(16), 1);
    }

    private static void promise26InPlaceOfTheOneThatWas() {
        MovedStalls x = new MovedStalls();
        for (int days = 1; days <= 5; days++) {
            x.pass(days);
            DUE.is("save()", x.save(), days * (days + 1) / 2);
        }
        x.pass(1);
        DUE.is("the latest one", x.restore(), 15);
        x.undo();
        x.undo();
        x.undo();
        DUE.is("the latest one, behind undo()", x.restore(), 15);
    }

    private static void promise26IsNoChange() {
        MovedStalls x = new MovedStalls();
        DUE.is("save()", x.save(), 0);
        DUE.is("states", x.count(16), 0);
        DUE.is("undo()", x.undo(), -2);
        x.pass(2);
        DUE.is("save() again", x.save(), 2);
        DUE.is("states", x.count(16), 1);
        DUE.is("undo() of pass()", x.undo(), 0);
    }

    /** "NOT_POSSIBLE if there is none" */
    private static void promise27NoSnapshot() {
        MovedStalls x = new MovedStalls();
        DUE.is("new", x.restore(), -2);
        x.pass(3);
        DUE.is("never saved", x.restore(), -2);
        DUE.is("never saved: the day", x.count(0), 3);
        DUE.is("never saved: states", x.count(16), 1);
        x.undo();
        DUE.is("behind undo()", x.restore(), -2);
        x.save();
        DUE.is("saved", x.restore(), 0);
    }

    /** "Restores the snapshot, which stays." */
    private static void promise27TheSnapshotStays() {
        for (int n = 0; n <= 8; n++) {
            int which = n;
            MovedStalls x = some();
            x.restore();
            String saved = Due.looks(x);
            change(x, which);
            x.pass(3);
            DUE.is("restore() again", x.restore(), 1);
            DUE.is("as it was, behind change " + which, Due.looks(x), saved);
        }
    }

    private static void promise27IsAChange() {
        MovedStalls x = some();
        x.load(4);
        x.load(5);
        String before = counts(x);
        x.restore();
        DUE.is("states", x.count(16), 4);
        DUE.is("undo()", x.undo(), 3);
        DUE.is("as before restore()", counts(x), before);
        DUE.is("undo() of load()", x.undo(), 2);
        DUE.is("LOAD", x.count(13), 4);
    }

    private static void promise27ThePadAndTheHistoryStay() {
        MovedStalls x = Due.withTours("01");
        Due.type(x, "0>1,1>0");
        x.save();
        Due.type(x, "5>4");
        x.load(7);
        x.restore();
        DUE.is("the pad", x.count(15), 3);
        DUE.is("the history", x.count(16), 3);
        DUE.is("letters() of it", x.letters(), 1);
        DUE.is("what it was", x.bundle(0, 1), 5);
    }

    /** "An object is used for at most 512 calls": the last one of them answers as the first. */
    private static void theLastOf512Calls() {
        MovedStalls x = new MovedStalls();
        for (int call = 1; call < CALLS; call++) {
            DUE.is("pass(30), call " + call, x.pass(30), 0);
        }
        DUE.is("the last call: the day", x.count(0), 30 * (CALLS - 1));
        MovedStalls y = new MovedStalls();
        for (int call = 1; call < CALLS; call++) {
            DUE.is("append, call " + call, y.append('0'), call <= 60 ? call : -3);
        }
        DUE.is("the last call: clear()", y.clear(), 60);
    }

    private static void changesUpToTheLastCall() {
        MovedStalls x = new MovedStalls();
        for (int call = 1; call < CALLS; call++) {
            DUE.is("load, call " + call, x.load(call % 8 + 1), call == 1 ? 3 : (call - 1) % 8 + 1);
        }
        DUE.is("the last call: undo()", x.undo(), 3);
    }

    /** Behind the day 9999 all goes on, though where() tells no days there. */
    private static void daysFarAhead() {
        MovedStalls x = Due.withTours("01;102");
        for (int i = 0; i < 400; i++) {
            x.pass(30);
        }
        int today = 12000;
        DUE.is("today", x.count(0), today);
        DUE.is("where today", x.where(0, today), -1);
        DUE.is("where(0, 9999)", x.where(0, 9999), 1);
        // 12000 is a day like 0 for both carriers; its weekday is 2.
        DUE.is("post(0, 2)", x.post(0, 2), today + 2);
        DUE.is("post(1, 2)", x.post(1, 2), today + 5);
        DUE.is("told forward", x.arrival(1, 1), today + 5);
        DUE.is("meeting", x.meeting(0, 1, false), today + 3);
        DUE.is("meeting at the stall", x.meeting(0, 1, true), today + 4);
        DUE.is("ifPosted", x.ifPosted(0, 2, 30), today + 32);
        DUE.is("bestDay", x.bestDay(0, 2), 0);
        DUE.is("bestTown", x.bestTown(6), 0);
        DUE.is("ill", x.ill(1, 30), today + 31);
        DUE.is("where an ill one was", x.where(1, 9999), -4);
        DUE.is("undo()", x.undo(), 3);
        DUE.is("pass(5)", x.pass(5), 2);
        DUE.is("the day of the arrival", x.bundle(1, 3), today + 5);
        DUE.is("lateness()", x.lateness(), 0.0);
        DUE.is("save()", x.save(), today + 5);
        DUE.is("restore()", x.restore(), today + 5);
    }

    /** Nothing of one object is in another one. */
    private static void objectsApart() {
        String fresh = Due.whole(MovedStalls::new, x -> 0);
        MovedStalls used = some();
        used.stall(0, 5);
        used.load(8);
        DUE.is("a new object behind a used one", Due.whole(MovedStalls::new, x -> 0), fresh);
        DUE.is("two alike", Due.whole(ChangesEdgesTest::some, x -> 0), Due.whole(ChangesEdgesTest::some, x -> 0));
    }
}
