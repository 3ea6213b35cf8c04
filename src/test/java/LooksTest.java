/** Promises 14 to 20: where, carrier, bundle, arrival, meeting, count, lateness. */
public final class LooksTest {
    private static final Due DUE = new Due("LooksTest");
    private static final String TWO = "01;102";

    public static void main(String[] args) {
        promise14Where();
        promise15Carrier();
        promise16Bundle();
        promise16Delay();
        promise16DelayOfMinusFour();
        promise17Arrival();
        promise17ArrivalOverHands();
        promise18Meeting();
        promise18MeetingLooks30DaysAhead();
        promise18MeetingOfTheIll();
        promise19Count();
        promise19CountOutside();
        promise20Lateness();
        looksChangeNothing();
        DUE.end();
    }

    private static void promise14Where() {
        MovedStalls x = Due.withTours(TWO);
        DUE.is("where(1, 0)", x.where(1, 0), 1);
        DUE.is("where(1, 1)", x.where(1, 1), 0);
        DUE.is("where(1, 2)", x.where(1, 2), 2);
        DUE.is("where(1, 3)", x.where(1, 3), 1);
        DUE.is("where(0, 9999)", x.where(0, 9999), 1);
        DUE.is("where(1, 9998)", x.where(1, 9998), 2);
        DUE.is("where(0, 10000)", x.where(0, 10000), -1);
        DUE.is("where(0, -1)", x.where(0, -1), -1);
        DUE.is("where(2, 0)", x.where(2, 0), -1);
        DUE.is("where(-1, 0)", x.where(-1, 0), -1);
        x.pass(3);
        x.ill(1, 3);
        DUE.is("ill: where(1, 6)", x.where(1, 6), -4);
        DUE.is("ill: where(1, 0), a day that has passed", x.where(1, 0), -4);
        DUE.is("about again: where(1, 7)", x.where(1, 7), 0);
        DUE.is("another one: where(0, 6)", x.where(0, 6), 0);
        DUE.is("ill, and wrong: where(1, -1)", x.where(1, -1), -1);
    }

    private static void promise15Carrier() {
        MovedStalls x = Due.with("01*3;102*5", "0>2,1>2");
        DUE.is("carrier(1, 0)", x.carrier(1, 0), 3);
        DUE.is("carrier(0, 1)", x.carrier(0, 1), 3);
        DUE.is("carrier(1, 2)", x.carrier(1, 2), 0);
        DUE.is("carrier(1, 3)", x.carrier(1, 3), 0);
        DUE.is("carrier(1, 4)", x.carrier(1, 4), 0);
        x.load(1);
        x.pass(1);
        DUE.is("has one: carrier(1, 2)", x.carrier(1, 2), 1);
        DUE.is("is full: carrier(1, 3)", x.carrier(1, 3), 1);
        DUE.is("is not full: carrier(0, 3)", x.carrier(0, 3), 0);
        DUE.is("carrier(1, 5)", x.carrier(1, 5), 1);
        DUE.is("carrier(1, 6)", x.carrier(1, 6), 1);
        x.pass(1);
        DUE.is("has none: carrier(1, 2)", x.carrier(1, 2), 0);
        DUE.is("is not full: carrier(1, 3)", x.carrier(1, 3), 0);
        x.pass(3);
        DUE.is("so far: carrier(0, 5)", x.carrier(0, 5), 1);
        DUE.is("so far: carrier(1, 5)", x.carrier(1, 5), 2);
        DUE.is("so far: carrier(0, 6)", x.carrier(0, 6), 0);
        DUE.is("so far: carrier(1, 6)", x.carrier(1, 6), 2);
        x.forget(0);
        x.forget(0);
        DUE.is("forgotten ones count: carrier(1, 5)", x.carrier(1, 5), 2);
        DUE.is("forgotten ones count: carrier(1, 6)", x.carrier(1, 6), 2);
        DUE.is("carrier(0, 7)", x.carrier(0, 7), -1);
        DUE.is("carrier(0, -1)", x.carrier(0, -1), -1);
        DUE.is("carrier(2, 0)", x.carrier(2, 0), -1);
        DUE.is("carrier(-1, 0)", x.carrier(-1, 0), -1);
        DUE.is("carrier(4, 0)", x.carrier(4, 0), -1);
    }

    private static void bundle(String when, MovedStalls x, int number, int... want) {
        for (int what = 0; what < want.length; what++) {
            DUE.is(when + ": bundle(" + number + ", " + what + ")", x.bundle(number, what), want[what]);
        }
    }

    private static void promise16Bundle() {
        MovedStalls x = Due.withTours("01;102*5");
        x.pass(6);
        x.post(0, 2);
        x.post(5, 3);
        bundle("day 6", x, 0, 2, 0, -4, -4, 8, 1000, 0, 0, 6);
        bundle("day 6", x, 1, 3, 5, -4, -4, -4, -4, 0, 0, 6);
        x.pass(1);
        bundle("day 7", x, 0, 2, -4, 1, -4, 8, 1000, 1, 1, 6);
        x.pass(1);
        bundle("day 8", x, 0, 2, -4, -4, 8, 8, 1000, 1, 1, 6);
        DUE.is("bundle(0, 9)", x.bundle(0, 9), -1);
        DUE.is("bundle(0, -1)", x.bundle(0, -1), -1);
        DUE.is("bundle(2, 0)", x.bundle(2, 0), -1);
        DUE.is("bundle(-1, 0)", x.bundle(-1, 0), -1);
        DUE.is("bundle(8, 0)", x.bundle(8, 0), -1);
    }

    private static void promise16Delay() {
        MovedStalls x = Due.with(TWO, "0>2");
        x.ill(1, 1);
        DUE.is("arrival", x.arrival(0, 0), 5);
        DUE.is("the promise stays", x.bundle(0, 4), 2);
        DUE.is("delay 3", x.bundle(0, 5), 1003);
        x.ill(1, 30);
        DUE.is("about again on 31: no arrival", x.arrival(0, 0), -4);
        DUE.is("no delay", x.bundle(0, 5), -4);
        x.pass(30);
        DUE.is("delay 30", x.bundle(0, 5), 1030);
        x.pass(2);
        DUE.is("arrived", x.bundle(0, 3), 32);
        x.ill(1, 30);
        DUE.is("arrived: the delay stays", x.bundle(0, 5), 1030);
        x.pass(30);
        DUE.is("arrived: the delay does not grow", x.bundle(0, 5), 1030);
        MovedStalls y = Due.withTours(TWO);
        y.ill(1, 1);
        DUE.is("promise of an ill day", y.post(0, 2), 5);
        y.ill(1, 0);
        DUE.is("delay -3", y.bundle(0, 5), 997);
    }

    private static void promise16DelayOfMinusFour() {
        MovedStalls x = Due.withTours("01");
        x.ill(0, 4);
        DUE.is("promise", x.post(0, 1), 7);
        x.ill(0, 0);
        DUE.is("arrival", x.arrival(0, 0), 3);
        DUE.is("a delay with the number of NOT_FOUND", x.bundle(0, 5), 996);
        DUE.is("counts on the mean", x.lateness(), -4.0);
    }

    private static void promise17Arrival() {
        MovedStalls x = Due.with(TWO, "0>2,1>2,5>0");
        for (int way = 0; way <= 1; way++) {
            DUE.is("arrival(0, " + way + ")", x.arrival(0, way), 2);
            DUE.is("arrival(1, " + way + ")", x.arrival(1, way), 5);
            DUE.is("arrival(2, " + way + ")", x.arrival(2, way), -4);
        }
        DUE.is("arrival(0, 2)", x.arrival(0, 2), -1);
        DUE.is("arrival(0, -1)", x.arrival(0, -1), -1);
        DUE.is("arrival(3, 0)", x.arrival(3, 0), -1);
        DUE.is("arrival(-1, 0)", x.arrival(-1, 0), -1);
        x.pass(4);
        for (int way = 0; way <= 1; way++) {
            DUE.is("arrived: arrival(0, " + way + ")", x.arrival(0, way), 2);
            DUE.is("carried: arrival(1, " + way + ")", x.arrival(1, way), 5);
        }
        x.pass(30);
        DUE.is("arrived, and wrong", x.arrival(0, 2), -1);
    }

    private static void promise17ArrivalOverHands() {
        // Carrier 0 takes it in 1 on day 2, and is at the stall in 0 on odd days.
        MovedStalls x = Due.with("10;200;555555", "1>5");
        for (int way = 0; way <= 1; way++) {
            DUE.is("nobody goes from 0 to 5: arrival(0, " + way + ")", x.arrival(0, way), -4);
        }
        Due.type(x, "50");
        x.tours();
        for (int way = 0; way <= 1; way++) {
            DUE.is("a fourth one goes: arrival(0, " + way + ")", x.arrival(0, way), 4);
        }
        for (int weekday = 0; weekday <= 6; weekday++) {
            x.stall(weekday, 6);
        }
        for (int way = 0; way <= 1; way++) {
            DUE.is("no stall: arrival(0, " + way + ")", x.arrival(0, way), -4);
        }
        x.stall(5, 0);
        for (int way = 0; way <= 1; way++) {
            DUE.is("a stall on weekday 5: arrival(0, " + way + ")", x.arrival(0, way), 6);
        }
        x.ill(3, 5);
        for (int way = 0; way <= 1; way++) {
            DUE.is("ill on day 5: arrival(0, " + way + ")", x.arrival(0, way), 20);
        }
        // Through three hands: taken in 1, handed over in 0 on day 3, in 2 on day 4.
        MovedStalls y = Due.withTours("10;20;25");
        y.stall(4, 2);
        DUE.is("three hands: post(1, 5)", y.post(1, 5), 5);
        DUE.is("three hands: forward", y.arrival(0, 1), 5);
        DUE.is("three hands: it arrives", y.pass(5), 1);
        DUE.is("three hands: changes", y.bundle(0, 7), 3);
    }

    private static void promise18Meeting() {
        MovedStalls x = Due.withTours(TWO);
        DUE.is("meeting(0, 1, false)", x.meeting(0, 1, false), 3);
        DUE.is("meeting(1, 0, false)", x.meeting(1, 0, false), 3);
        DUE.is("meeting(0, 1, true)", x.meeting(0, 1, true), 4);
        x.stall(3, 1);
        DUE.is("the stall moved: meeting(0, 1, true)", x.meeting(0, 1, true), 3);
        x.pass(3);
        DUE.is("behind today: meeting(0, 1, false)", x.meeting(0, 1, false), 4);
        x.pass(1);
        DUE.is("behind today: meeting(0, 1, false)", x.meeting(0, 1, false), 9);
        DUE.is("meeting(0, 0, false)", x.meeting(0, 0, false), -1);
        DUE.is("meeting(0, 2, false)", x.meeting(0, 2, false), -1);
        DUE.is("meeting(2, 0, true)", x.meeting(2, 0, true), -1);
        DUE.is("meeting(2, 2, true)", x.meeting(2, 2, true), -1);
        DUE.is("meeting(-1, 0, false)", x.meeting(-1, 0, false), -1);
        DUE.is("meeting(0, -1, false)", x.meeting(0, -1, false), -1);
    }

    private static void promise18MeetingLooks30DaysAhead() {
        MovedStalls x = Due.withTours("0;0");
        x.ill(0, 29);
        DUE.is("on 30", x.meeting(0, 1, false), 30);
        DUE.is("on 30, at the stall", x.meeting(0, 1, true), 30);
        x.ill(0, 30);
        DUE.is("on 31", x.meeting(0, 1, false), -4);
        DUE.is("on 31, at the stall", x.meeting(0, 1, true), -4);
    }

    private static void promise18MeetingOfTheIll() {
        MovedStalls x = Due.withTours("0;0");
        x.ill(0, 3);
        x.ill(1, 5);
        DUE.is("ill ones are in no town", x.meeting(0, 1, false), 6);
        for (int weekday = 0; weekday <= 6; weekday++) {
            x.stall(weekday, weekday == 2 ? 0 : 6);
        }
        DUE.is("nor at a stall that is nowhere", x.meeting(0, 1, true), 9);
    }

    private static void count(String when, MovedStalls x, int... want) {
        for (int what = 0; what < want.length; what++) {
            DUE.is(when + ": count(" + what + ")", x.count(what), want[what]);
        }
    }

    private static void promise19Count() {
        MovedStalls x = Due.with("01*7;102*5", "0>2,1>2,5>4");
        Due.type(x, "abc");
        count("day 0", x, 0, 0, 2, 0, 3, 3, 0, 0, 0, 3, 0, 0, 0, 3, 1, 3, 2);
        x.pass(1);
        count("day 1", x, 1, 0, 2, 0, 3, 2, 1, 0, 1, 3, 0, 0, 1, 3, 2084, 3, 3);
        x.pass(1);
        count("day 2", x, 2, 0, 2, 0, 3, 2, 0, 1, 1, 3, 1, 0, 1, 3, 2084, 3, 4);
        x.ill(0, 1);
        x.stall(2, 6);
        x.load(7);
        count("day 2, ill", x, 2, -4, 2, 1, 3, 2, 0, 1, 1, 3, 1, 0, 1, 7, 2084, 3, 4);
        x.forget(0);
        count("forgotten", x, 2, -4, 2, 1, 2, 2, 0, 0, 0, 3, 1, 1, 1, 7, 2084, 3, 4);
    }

    private static void promise19CountOutside() {
        MovedStalls x = new MovedStalls();
        DUE.is("count(17)", x.count(17), -1);
        DUE.is("count(-1)", x.count(-1), -1);
        DUE.is("count(greatest)", x.count(Integer.MAX_VALUE), -1);
        DUE.is("count(least)", x.count(Integer.MIN_VALUE), -1);
    }

    private static void promise20Lateness() {
        MovedStalls x = Due.with(TWO, "0>2");
        DUE.is("no delay", x.lateness(), 0.0);
        x.ill(1, 1);
        DUE.is("delay 3", x.lateness(), 3.0);
        DUE.is("another one", x.post(0, 2), 5);
        DUE.is("delays 3 and 0", x.lateness(), 1.5);
        x.post(0, 2);
        DUE.is("delays 3, 0, 0", x.lateness(), 1.0);
        x.post(5, 0);
        DUE.is("one without a promise is aside", x.lateness(), 1.0);
        x.post(1, 0);
        DUE.is("delays 3, 0, 0, 0", x.lateness(), 0.75);
        x.ill(0, 30);
        x.ill(1, 30);
        DUE.is("none has an arrival", x.lateness(), 0.0);
        x.undo();
        x.undo();
        x.pass(5);
        DUE.is("arrived", x.count(7), 4);
        DUE.is("arrived ones count", x.lateness(), 0.75);
        x.forget(0);
        DUE.is("forgotten ones do not", x.lateness(), 0.0);
        MovedStalls y = Due.with(TWO, "0>2,1>2,1>2");
        y.ill(1, 1);
        DUE.is("a third", y.lateness(), 3.0 / 3.0);
        y.ill(1, 4);
        DUE.is("8 - 2, 8 - 5, 8 - 5", y.lateness(), 4.0);
        y.forget(0);
        y.post(1, 0);
        DUE.is("3, 3, 0", y.lateness(), 2.0);
        y.post(0, 1);
        y.post(0, 1);
        DUE.is("3, 3, 0, 0, 0", y.lateness(), 6.0 / 5.0);
    }

    private static void looksChangeNothing() {
        MovedStalls x = Due.with(TWO, "0>2,1>2,5>4");
        x.pass(3);
        String before = Due.looks(x);
        x.where(0, 5);
        x.arrival(1, 0);
        x.arrival(1, 1);
        x.meeting(0, 1, true);
        x.lateness();
        x.carrier(0, 9);
        x.bundle(0, 9);
        x.count(99);
        DUE.is("after looks", Due.looks(x), before);
        DUE.is("looks are no changes", x.count(16), 3);
    }
}
