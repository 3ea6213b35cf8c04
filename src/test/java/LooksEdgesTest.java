/** The promises 14 to 24: a test for each sentence that names an edge. */
public final class LooksEdgesTest {
    private static final Due DUE = new Due("LooksEdgesTest");
    private static final int NOWHERE = 6;
    // Carrier 0 is in 3 on even days, carrier 1 in 5; on odd days both are in 0.
    private static final String MEET_ON_ODD_DAYS = "30;50";

    public static void main(String[] args) {
        promise14ByWhatIsToldNow();
        promise14Day9999();
        promise15FullOrNot();
        promise15AboutAgainAsTold();
        promise15SoFar();
        promise15SealsThatWereWhole();
        promise16NotFoundAsTold();
        promise16TheDelayAnd1000();
        promise17TheDayOnWhichItArrived();
        promise17TheSameForBoth();
        promise18BehindToday();
        promise18UpTo30DaysAhead();
        promise18EachDayAhead();
        promise18AlsoIfBothAreTheSame();
        promise18AtTheStallOfThatDay();
        promise19TheStallToday();
        promise19IllToday();
        promise19OfAllOfThese();
        promise19SoFar();
        promise20WithoutAny();
        promise20DividedByTheirNumber();
        promise21DaysFromTodayOn();
        promise21LooksFromThatDay();
        promise22FewestDays();
        promise22UpTo13Days();
        promise22EachOf0To13();
        promise22NoArrivalForAnyOfThese();
        promise23NoBundles();
        promise23OnlyThoseThatHaveNotArrived();
        promise23OnThatWeekdayOnly();
        promise23MostBundles();
        promise23EachTown();
        promise23EachBundle();
        promise23TheLeastSum();
        promise23TheLeastNumber();
        promise23SeenUpTo30DaysAhead();
        promise24InThem();
        promise24SealsThatWouldBreak();
        promise24AsPassWouldTell();
        promise21To24With8Bundles();
        promise21To24ChangeNothing();
        DUE.end();
    }

    private static MovedStalls withoutStall(String tours, String letters) {
        MovedStalls x = Due.with(tours, letters);
        for (int weekday = 0; weekday <= 6; weekday++) {
            x.stall(weekday, NOWHERE);
        }
        return x;
    }

    private static void promise14ByWhatIsToldNow() {
        MovedStalls x = Due.withTours("123");
        x.pass(8);
        DUE.is("a day that has passed", x.where(0, 4), 2);
        x.ill(0, 1);
        DUE.is("ill now: a day that has passed", x.where(0, 4), -4);
        DUE.is("ill now: tomorrow", x.where(0, 9), -4);
        DUE.is("ill now: about again", x.where(0, 10), 2);
        x.ill(0, 0);
        DUE.is("not ill any more", x.where(0, 4), 2);
        x.undo();
        DUE.is("ill again", x.where(0, 9), -4);
    }

    private static void promise14Day9999() {
        MovedStalls x = Due.withTours("0123450;012345;01234;0123");
        int[] want = {9999 % 7 % 6, 9999 % 6, 9999 % 5, 9999 % 4};
        for (int c = 0; c <= 3; c++) {
            DUE.is("where(" + c + ", 9999)", x.where(c, 9999), want[c]);
            DUE.is("where(" + c + ", 10000)", x.where(c, 10000), -1);
            DUE.is("where(" + c + ", 0)", x.where(c, 0), 0);
            DUE.is("where(" + c + ", -1)", x.where(c, -1), -1);
        }
    }

    /** "3: 1 if full, otherwise 0" */
    private static void promise15FullOrNot() {
        MovedStalls x = Due.with("01", "0>1,0>1");
        x.pass(2);
        int[] full = {1, 1, 0, 0, 0, 0, 0, 0};
        for (int load = 1; load <= 8; load++) {
            x.load(load);
            DUE.is("has 2, LOAD is " + load, x.carrier(0, 3), full[load - 1]);
            DUE.is("has 2", x.carrier(0, 2), 2);
        }
    }

    /** "4: the day on which the carrier is about again, as told by ill(), 0 if never ill" */
    private static void promise15AboutAgainAsTold() {
        MovedStalls x = Due.withTours("0;1");
        DUE.is("never ill", x.carrier(0, 4), 0);
        for (int days = 1; days <= 30; days++) {
            DUE.is("ill(0, " + days + ")", x.ill(0, days), days + 1);
            DUE.is("as told", x.carrier(0, 4), days + 1);
        }
        x.pass(30);
        x.pass(30);
        DUE.is("as told, long ago", x.carrier(0, 4), 31);
        DUE.is("the other one", x.carrier(1, 4), 0);
        x.ill(0, 0);
        DUE.is("not ill any more", x.carrier(0, 4), 0);
    }

    /** "5: changes of hands to this carrier so far", those of arrived and forgotten bundles, too */
    private static void promise15SoFar() {
        MovedStalls x = Due.withTours("01");
        for (int round = 1; round <= 20; round++) {
            x.post(0, 1);
            x.pass(4);
            DUE.is("so far", x.carrier(0, 5), round);
            x.forget(0);
            DUE.is("so far, forgotten", x.carrier(0, 5), round);
        }
    }

    /** "6: seals that were whole, and broke by that, so far" */
    private static void promise15SealsThatWereWhole() {
        // The remainders are 4 for carrier 0, and 7 for carrier 1: both would break the seal.
        MovedStalls x = Due.with(MEET_ON_ODD_DAYS, "3>5");
        x.rough(0, 9);
        x.rough(1, 9);
        x.pass(3);
        DUE.is("was whole: carrier 0", x.carrier(0, 6), 1);
        DUE.is("was broken: carrier 1", x.carrier(1, 6), 0);
        x.forget(0);
        DUE.is("forgotten: carrier 0", x.carrier(0, 6), 1);
    }

    /** "NOT_FOUND as told" */
    private static void promise16NotFoundAsTold() {
        MovedStalls x = Due.with("01", "0>1,5>4");
        int[][] want = {
            {1, 0, -4, -4, 3, 1000, 0, 0, 0}, {1, 0, -4, -4, 3, 1000, 0, 0, 0},
            {1, -4, 0, -4, 3, 1000, 0, 1, 0}, {1, -4, -4, 3, 3, 1000, 0, 1, 0},
        };
        int[] lost = {4, 5, -4, -4, -4, -4, 0, 0, 0};
        for (int day = 0; day <= 3; day++) {
            for (int what = 0; what <= 8; what++) {
                DUE.is("day " + day + ": bundle(0, " + what + ")", x.bundle(0, what), want[day][what]);
                DUE.is("day " + day + ": bundle(1, " + what + ")", x.bundle(1, what), lost[what]);
            }
            x.pass(1);
        }
    }

    /** "5: its delay, and 1000" */
    private static void promise16TheDelayAnd1000() {
        MovedStalls x = Due.with("01", "0>1");
        DUE.is("delay 0", x.bundle(0, 5), 1000);
        x.ill(0, 2);
        DUE.is("delay 2", x.bundle(0, 5), 1002);
        x.pass(4);
        DUE.is("delay 2, with the carrier", x.bundle(0, 5), 1002);
        x.ill(0, 30);
        DUE.is("delay 32, not seen yet", x.bundle(0, 5), -4);
        x.pass(1);
        DUE.is("delay 32", x.bundle(0, 5), 1032);
        for (int i = 0; i < 10; i++) {
            x.pass(20);
            x.ill(0, 21);
        }
        DUE.is("a delay of many days", x.bundle(0, 5), 1000 + 227 - 3);
    }

    /** "the day on which it arrived, if it has": whatever comes then */
    private static void promise17TheDayOnWhichItArrived() {
        MovedStalls x = Due.with("01", "0>1");
        x.pass(3);
        x.ill(0, 30);
        x.stall(0, NOWHERE);
        x.pass(30);
        for (int way = 0; way <= 1; way++) {
            DUE.is("arrived, way " + way, x.arrival(0, way), 3);
        }
        DUE.is("arrived, way 2", x.arrival(0, 2), -1);
        DUE.is("arrived, way -1", x.arrival(0, -1), -1);
    }

    /** "Returns the day (the same for both)": all posted from all towns, on the way of a week */
    private static void promise17TheSameForBoth() {
        MovedStalls x = Due.withTours("03;0145;2210455;5123");
        for (int weekday = 0; weekday <= 6; weekday++) {
            x.stall(weekday, (3 * weekday + 1) % 7);
        }
        int[][] pairs = {{0, 5}, {1, 3}, {2, 0}, {3, 2}, {4, 1}, {5, 0}, {3, 4}, {2, 3}};
        for (int[] pair : pairs) {
            x.post(pair[0], pair[1]);
        }
        for (int day = 0; day <= 14; day++) {
            for (int b = 0; b < 8; b++) {
                DUE.is("day " + day + ", bundle " + b, x.arrival(b, 1), x.arrival(b, 0));
            }
            x.pass(1);
        }
    }

    /** "Returns the first such day behind today" */
    private static void promise18BehindToday() {
        MovedStalls x = Due.withTours("000001;000002");
        for (int day = 0; day <= 14; day++) {
            int next = day + 1;
            DUE.is("day " + day, x.meeting(0, 1, false), next % 6 == 5 ? next + 1 : next);
            x.pass(1);
        }
        MovedStalls y = Due.withTours("0111111;0222222");
        DUE.is("today both are in 0", y.meeting(0, 1, false), 7);
        DUE.is("today both are at the stall", y.meeting(0, 1, true), 7);
        y.pass(6);
        DUE.is("tomorrow both are in 0", y.meeting(0, 1, false), 7);
        y.pass(1);
        DUE.is("today again", y.meeting(0, 1, false), 14);
    }

    /** "up to 30 days ahead" */
    private static void promise18UpTo30DaysAhead() {
        // Both are in 0 each 30th day.
        MovedStalls x = Due.withTours("01111;022222");
        DUE.is("30 days ahead", x.meeting(0, 1, false), 30);
        DUE.is("30 days ahead, at the stall", x.meeting(1, 0, true), 30);
        x.stall(2, NOWHERE);
        DUE.is("30 days ahead, not at the stall", x.meeting(0, 1, true), -4);
        MovedStalls y = Due.withTours("20;02");
        y.stall(1, NOWHERE);
        DUE.is("in turns", y.meeting(0, 1, false), -4);
        // Each 35th day: 30 days ahead on day 5, 31 ahead on day 4.
        MovedStalls z = Due.withTours("01111;0222222");
        z.pass(4);
        DUE.is("31 days ahead", z.meeting(0, 1, false), -4);
        DUE.is("31 days ahead, at the stall", z.meeting(0, 1, true), -4);
        z.pass(1);
        DUE.is("30 days ahead, from 5 on", z.meeting(0, 1, false), 35);
        DUE.is("30 days ahead, from 5 on, at the stall", z.meeting(0, 1, true), 35);
    }

    private static void promise18EachDayAhead() {
        for (int days = 1; days <= 29; days++) {
            MovedStalls x = Due.withTours("0;0");
            x.ill(1, days);
            DUE.is((days + 1) + " days ahead", x.meeting(0, 1, false), days + 1);
            DUE.is((days + 1) + " days ahead, at the stall", x.meeting(1, 0, true), days + 1);
            x.pass(1);
            DUE.is(days + " days ahead", x.meeting(1, 0, false), days + 1);
        }
    }

    /** "INVALID_ARGUMENT (also if both are the same)" */
    private static void promise18AlsoIfBothAreTheSame() {
        MovedStalls x = Due.withTours("0;0;0;0");
        for (int c = 0; c <= 3; c++) {
            for (int other = 0; other <= 3; other++) {
                DUE.is("meeting(" + c + ", " + other + ", false)", x.meeting(c, other, false), c == other ? -1 : 1);
                DUE.is("meeting(" + c + ", " + other + ", true)", x.meeting(c, other, true), c == other ? -1 : 1);
            }
        }
    }

    private static void promise18AtTheStallOfThatDay() {
        for (int weekday = 0; weekday <= 6; weekday++) {
            for (int town = 0; town <= 5; town++) {
                MovedStalls x = withoutStall(town + ";" + town, "0>1");
                x.stall(weekday, town);
                x.stall((weekday + 1) % 7, (town + 1) % 6);
                DUE.is("weekday " + weekday + ", town " + town, x.meeting(0, 1, true), weekday == 0 ? 7 : weekday);
            }
        }
    }

    /** "1: the town in which the stall stands today, NOT_FOUND if nowhere" */
    private static void promise19TheStallToday() {
        for (int weekday = 0; weekday <= 6; weekday++) {
            for (int town = 0; town <= NOWHERE; town++) {
                MovedStalls x = new MovedStalls();
                x.stall(weekday, town);
                x.pass(7 + weekday);
                DUE.is("weekday " + weekday + ", " + town, x.count(1), town == NOWHERE ? -4 : town);
            }
        }
    }

    /** "3: those who are ill today" */
    private static void promise19IllToday() {
        MovedStalls x = Due.withTours("0;1;2;3");
        for (int c = 0; c <= 3; c++) {
            x.ill(c, c + 1);
            DUE.is("ill ones", x.count(3), c + 1);
        }
        int[] want = {4, 4, 3, 2, 1, 0, 0};
        for (int day = 0; day <= 6; day++) {
            DUE.is("ill on day " + day, x.count(3), want[day]);
            x.pass(1);
        }
    }

    /** "4: bundles; 5: those that lie in towns; 6: with carriers; 7: arrived; 8: broken seals of all of these" */
    private static void promise19OfAllOfThese() {
        MovedStalls x = Due.with("01*9", "5>4");
        for (int b = 1; b <= 6; b++) {
            x.post(0, 1);
            DUE.is("bundles", x.count(4), 1 + b);
            DUE.is("lie", x.count(5), 1 + b);
        }
        x.load(4);
        x.pass(2);
        int[] carried = {7, 3, 4, 0, 4};
        for (int i = 0; i < 5; i++) {
            DUE.is("day 2: count(" + (4 + i) + ")", x.count(4 + i), carried[i]);
        }
        x.pass(2);
        int[] arrived = {7, 1, 2, 4, 5};
        for (int i = 0; i < 5; i++) {
            DUE.is("day 4: count(" + (4 + i) + ")", x.count(4 + i), arrived[i]);
        }
        x.forget(1);
        int[] forgotten = {6, 1, 2, 3, 4};
        for (int i = 0; i < 5; i++) {
            DUE.is("forgotten: count(" + (4 + i) + ")", x.count(4 + i), forgotten[i]);
        }
    }

    /** "and so far 9: bundles posted; 10: arrivals; 11: bundles forgotten; 12: changes of hands" */
    private static void promise19SoFar() {
        MovedStalls x = Due.withTours("01");
        for (int round = 0; round < 12; round++) {
            Due.type(x, "0>1,5>4");
            x.letters();
            x.pass(4);
            x.forget(0);
            x.forget(0);
            DUE.is("posted", x.count(9), 2 * (round + 1));
            DUE.is("arrivals", x.count(10), round + 1);
            DUE.is("forgotten", x.count(11), 2 * (round + 1));
            DUE.is("changes of hands", x.count(12), round + 1);
            DUE.is("bundles", x.count(4), 0);
        }
    }

    /** "0.0 without any" */
    private static void promise20WithoutAny() {
        DUE.is("no bundles", new MovedStalls().lateness(), 0.0);
        MovedStalls x = Due.with("01", "5>4,4>5");
        DUE.is("none has a delay", x.lateness(), 0.0);
        x.post(0, 1);
        x.ill(0, 1);
        DUE.is("a delay of 0", x.lateness(), 0.0);
        x.ill(0, 3);
        DUE.is("one has a delay of 2", x.lateness(), 2.0);
        x.forget(2);
        DUE.is("forgotten", x.lateness(), 0.0);
    }

    /** "added up, as a double, divided by their number" */
    private static void promise20DividedByTheirNumber() {
        for (int more = 0; more <= 7; more++) {
            MovedStalls x = Due.with("01", "0>1");
            x.ill(0, 8);
            for (int b = 0; b < more; b++) {
                x.post(0, 1);
            }
            DUE.is("8 by " + (1 + more), x.lateness(), 8.0 / (1 + more));
            x.ill(0, 0);
            DUE.is("below 0, by " + (1 + more), x.lateness(), -8.0 * more / (1 + more) + 0.0);
        }
    }

    /** "how many days from today on it would be posted" */
    private static void promise21DaysFromTodayOn() {
        MovedStalls x = Due.withTours("012345");
        for (int today = 0; today <= 8; today++) {
            for (int day = 0; day <= 30; day++) {
                // Taken on the next day on which the carrier is in 0, and the day behind it in 1.
                int taken = (today + day + 6) / 6 * 6;
                DUE.is("day " + today + ": ifPosted(0, 1, " + day + ")", x.ifPosted(0, 1, day), taken + 1);
            }
            x.pass(1);
        }
    }

    /** "its arrival as seen behind that day": 30 days ahead of that day, not of today */
    private static void promise21LooksFromThatDay() {
        MovedStalls x = Due.withTours("01");
        x.ill(0, 30);
        for (int day = 0; day <= 30; day++) {
            DUE.is("taken on 32: ifPosted(0, 1, " + day + ")", x.ifPosted(0, 1, day), day < 3 ? -4 : 33);
        }
        DUE.is("30 days ahead of 30 days ahead", Due.withTours("0;0").ifPosted(0, 1, 30), -4);
        // Both are at the stall in 0 on day 30 and on day 60: that on day 60 is seen from 30 days on.
        MovedStalls y = withoutStall("03333;055555", "1>2");
        y.stall(4, 0);
        DUE.is("handed over on 60: ifPosted(3, 5, 30)", y.ifPosted(3, 5, 30), -4);
        y.pass(1);
        DUE.is("handed over on 60: from 31 on", y.ifPosted(3, 5, 30), 61);
        DUE.is("handed over on 60: from 30 on", y.ifPosted(3, 5, 29), -4);
    }

    /** "so that the days until its arrival are fewest, of several the fewest" */
    private static void promise22FewestDays() {
        MovedStalls x = Due.withTours("0123455");
        int[] want = {6, 5, 4, 3, 2, 1, 0, 6, 5};
        for (int today = 0; today <= 8; today++) {
            // Posted on the day before the carrier is in 0: then 2 days.
            DUE.is("day " + today + ": bestDay(0, 1)", x.bestDay(0, 1), want[today]);
            x.pass(1);
        }
        // In 0 on the days 1 and 4 of seven, in 1 on 3 and 6: posted on 0 or 3, it takes 3 days.
        MovedStalls y = Due.withTours("2021021");
        DUE.is("of several the fewest: 0, 3, 7, 10", y.bestDay(0, 1), 0);
        y.pass(1);
        DUE.is("of several the fewest: 2, 6, 9, 13", y.bestDay(0, 1), 2);
    }

    /** "0 to 13" */
    private static void promise22UpTo13Days() {
        MovedStalls x = Due.withTours("0123455");
        x.ill(0, 12);
        DUE.is("ill until 13: in 0 on 14", x.bestDay(0, 1), 13);
        x.ill(0, 13);
        DUE.is("ill until 14: in 0 on 14", x.bestDay(0, 1), 13);
        x.ill(0, 14);
        DUE.is("ill until 15: in 0 on 21, and 13 is the best", x.bestDay(0, 1), 13);
        x.pass(1);
        DUE.is("day 1: 14 is the best", x.bestDay(0, 1), 13);
        MovedStalls y = Due.withTours("01");
        y.ill(0, 14);
        DUE.is("ill until 15: in 0 on 16", y.bestDay(0, 1), 13);
        y.pass(3);
        DUE.is("day 3: posted on 15", y.bestDay(0, 1), 12);
        DUE.is("day 3: posted on 14", y.bestDay(1, 0), 11);
    }

    private static void promise22EachOf0To13() {
        for (int day = 0; day <= 13; day++) {
            MovedStalls x = Due.withTours("01");
            x.ill(0, day);
            // On the day that follows the carrier is there, and so takes it at once.
            int from = (day + 1) % 2;
            DUE.is("about again on " + (day + 1), x.bestDay(from, 1 - from), day);
        }
    }

    /** "NOT_FOUND if it has no arrival for any of these" */
    private static void promise22NoArrivalForAnyOfThese() {
        // Both are at the stall in 0 on day 60: seen from 31 days on, and so from day 18 in 13 days.
        MovedStalls x = withoutStall("03333;055555", "1>2");
        x.stall(4, 0);
        x.pass(17);
        DUE.is("in 14 days", x.bestDay(3, 5), -4);
        x.pass(1);
        DUE.is("in 13 days", x.bestDay(3, 5), 13);
        x.pass(13);
        DUE.is("today, or later", x.bestDay(3, 5), 13);
    }

    private static void promise23NoBundles() {
        for (int weekday = 0; weekday <= 6; weekday++) {
            DUE.is("a new object", new MovedStalls().bestTown(weekday), 0);
            DUE.is("no bundles", Due.withTours("45;54").bestTown(weekday), 0);
            DUE.is("no arrivals", withoutStall("45;54", "0>1").bestTown(weekday), 0);
        }
    }

    /** "most bundles that have not arrived have an arrival as seen now" */
    private static void promise23OnlyThoseThatHaveNotArrived() {
        // On day 3 carriers 0 and 1 are in 2; bundle 0 arrives on day 2, whatever the stall does.
        MovedStalls x = withoutStall("3332;5552;01", "1>0,3>5");
        x.pass(2);
        DUE.is("arrived", x.count(7), 1);
        DUE.is("the other one counts alone", x.bestTown(3), 2);
        x.forget(1);
        DUE.is("none is left that has not arrived", x.bestTown(3), 0);
    }

    /** "Finds the best town for the stall on a weekday": on the others it stays */
    private static void promise23OnThatWeekdayOnly() {
        for (int weekday = 0; weekday <= 6; weekday++) {
            // Both are in the town 4 each day but on those on which they are in 3 and 5.
            MovedStalls x = withoutStall("3444444;5444444", "3>5");
            DUE.is("weekday " + weekday, x.bestTown(weekday), weekday == 0 ? 0 : 4);
            DUE.is("nothing is changed", x.stall(weekday, 0), NOWHERE);
        }
        MovedStalls y = withoutStall("3444444;5444444", "3>5");
        y.stall(5, 4);
        DUE.is("soon enough on 5: weekday 6", y.bestTown(6), 0);
        DUE.is("soon enough on 5: weekday 5", y.bestTown(5), 4);
    }

    private static void promise23MostBundles() {
        // On weekday 1 carriers 0 and 1 are in the town 4, carriers 2 and 3 in the town 5.
        String tours = "0444444;1444444;2555555;3555555";
        int[] want = {4, 5, 4, 5};
        String[] letters = {"0>1,2>3,0>1", "2>3,0>1,2>3", "0>1", "2>3"};
        for (int i = 0; i < 4; i++) {
            DUE.is("most of " + letters[i], withoutStall(tours, letters[i]).bestTown(1), want[i]);
        }
        String seven = "0>1,2>3,0>1,2>3,0>1,2>3,4>5";
        DUE.is("three to three", withoutStall(tours, seven).bestTown(1), 4);
        DUE.is("the eighth one tells", withoutStall(tours, seven + ",2>3").bestTown(1), 5);
    }

    private static void promise23EachTown() {
        for (int town = 0; town <= 5; town++) {
            int from = (town + 1) % 6;
            int to = (town + 2) % 6;
            // On odd days both are in the town; on even days one is where it lies, the other where it goes.
            String tours = from + "" + town + ";" + to + town;
            for (int weekday = 0; weekday <= 6; weekday++) {
                MovedStalls x = withoutStall(tours, from + ">" + to);
                DUE.is("both are in " + town + ", weekday " + weekday, x.bestTown(weekday), town);
            }
        }
    }

    private static void promise23EachBundle() {
        // Carriers 0 and 1 are in the town 4 on weekday 1, carriers 2 and 3 in the town 5; nobody brings 4>5.
        String tours = "0444444;1444444;2555555;3555555";
        for (int number = 0; number <= 7; number++) {
            String letters = "4>5,".repeat(number) + "2>3" + ",4>5".repeat(7 - number);
            DUE.is("only bundle " + number + " can arrive", withoutStall(tours, letters).bestTown(1), 5);
        }
    }

    /** "of several that with the least sum of these arrivals" */
    private static void promise23TheLeastSum() {
        // With 0 both bundles arrive on 19; with 5 one on 4, the other on 25.
        MovedStalls x = withoutStall("54;520;530;40", "3>2,4>2");
        DUE.is("29 is less than 38, though 25 is later than 19", x.bestTown(3), 5);
        // With 2 one arrives on 3, the other on 25; with 5 both on 10.
        MovedStalls y = withoutStall("15;532;202;152", "3>1,1>3");
        DUE.is("20 is less than 28, though 3 is sooner than 10", y.bestTown(2), 5);
        y.forget(1);
        DUE.is("of one alone 3 is the least", y.bestTown(2), 2);
    }

    /** "of these the least number": 6 is told never, as nowhere is no better than any town */
    private static void promise23TheLeastNumber() {
        MovedStalls x = Due.with("01", "0>1,1>0");
        for (int weekday = 0; weekday <= 6; weekday++) {
            x.stall(weekday, weekday);
            DUE.is("the stall does not matter", x.bestTown(weekday), 0);
        }
        // Carriers 0 and 1 are in 5 on day 2, carriers 2 and 3 in 4: both bring the bundle on day 3.
        MovedStalls y = withoutStall("1355555;2555555;1344444;2444444", "3>2");
        DUE.is("4 and 5 alike", y.bestTown(2), 4);
        DUE.is("4 and 5 alike, on day 3", y.bestTown(3), 4);
    }

    private static void promise23SeenUpTo30DaysAhead() {
        // Both are in 4 on day 30 alone, which has the weekday 2: seen from day 1 on.
        MovedStalls x = withoutStall("43333;455555", "3>5");
        DUE.is("on 31, as seen behind 0", x.bestTown(2), 0);
        x.pass(1);
        DUE.is("on 31, as seen behind 1", x.bestTown(2), 4);
        DUE.is("on another weekday", x.bestTown(3), 0);
    }

    /** "0: how many bundles would arrive in them; 1: how many changes of hands there would be" */
    private static void promise24InThem() {
        MovedStalls x = Due.with("01111;022222", "1>0");
        x.pass(4);
        DUE.is("arrives on 5: 1 day", x.ifPassed(1, 0), 1);
        DUE.is("the change was before", x.ifPassed(1, 1), 0);
        x.pass(1);
        DUE.is("arrived before", x.ifPassed(30, 0), 0);
        // Handed over on day 30, and in 5 on day 31.
        MovedStalls y = Due.withTours("03333;055555");
        for (int weekday = 0; weekday <= 6; weekday++) {
            y.stall(weekday, weekday == 2 ? 0 : NOWHERE);
        }
        y.post(3, 5);
        DUE.is("30 days, from 0 on: arrivals", y.ifPassed(30, 0), 0);
        DUE.is("30 days, from 0 on: changes", y.ifPassed(30, 1), 2);
        DUE.is("29 days, from 0 on: changes", y.ifPassed(29, 1), 1);
        y.pass(1);
        DUE.is("30 days, from 1 on: arrivals", y.ifPassed(30, 0), 1);
        DUE.is("29 days, from 1 on: arrivals", y.ifPassed(29, 0), 0);
    }

    /** "2: how many seals would break": those that are broken do not break again */
    private static void promise24SealsThatWouldBreak() {
        MovedStalls x = Due.with(MEET_ON_ODD_DAYS, "3>5");
        x.rough(0, 5);
        x.rough(1, 8);
        DUE.is("4 < 5 and 7 < 8: one seal", x.ifPassed(5, 2), 1);
        DUE.is("4 < 5 and 7 < 8: two changes", x.ifPassed(5, 1), 2);
        x.pass(2);
        DUE.is("is broken", x.bundle(0, 6), 1);
        DUE.is("none more", x.ifPassed(5, 2), 0);
        MovedStalls y = Due.with("01*9", "0>1,0>1,0>1,0>1,0>1,0>1,0>1,0>1");
        y.load(8);
        DUE.is("all but the one with remainder 9", y.ifPassed(2, 2), 7);
        DUE.is("none on the first day", y.ifPassed(1, 2), 0);
    }

    /** What pass() and the counts tell then is what ifPassed() told before. */
    private static void promise24AsPassWouldTell() {
        for (int days = 1; days <= 30; days++) {
            MovedStalls x = Due.with("01*5;102*3", "0>2,1>2,5>4,0>1,1>0,0>2,2>1,2>0");
            x.load(1);
            int arrivals = x.ifPassed(days, 0);
            int changes = x.ifPassed(days, 1);
            int broken = x.ifPassed(days, 2);
            DUE.is(days + " days: arrivals", x.pass(days), arrivals);
            DUE.is(days + " days: changes", x.count(12), changes);
            DUE.is(days + " days: broken", x.count(8), broken);
        }
    }

    /** None of them tells of LIMIT_REACHED: what would be is told with 8 bundles, and with full carriers, too. */
    private static void promise21To24With8Bundles() {
        MovedStalls x = Due.with(MEET_ON_ODD_DAYS, "3>5,".repeat(7) + "3>5");
        x.load(1);
        // For each day: ifPosted today, ifPosted in 2 days, bestDay, changes of hands in 2 days.
        int[][] want = {{4, 6, 1, 1}, {4, 6, 0, 2}, {6, 8, 1, 2}};
        for (int day = 0; day <= 2; day++) {
            DUE.is("day " + day + ": a ninth one", x.post(3, 5), -3);
            DUE.is("day " + day + ": ifPosted(3, 5, 0)", x.ifPosted(3, 5, 0), want[day][0]);
            DUE.is("day " + day + ": ifPosted(3, 5, 2)", x.ifPosted(3, 5, 2), want[day][1]);
            DUE.is("day " + day + ": bestDay(3, 5)", x.bestDay(3, 5), want[day][2]);
            DUE.is("day " + day + ": bestTown(3)", x.bestTown(3), 0);
            DUE.is("day " + day + ": ifPassed(2, 1)", x.ifPassed(2, 1), want[day][3]);
            x.pass(1);
        }
    }

    private static MovedStalls some() {
        MovedStalls x = Due.with("01*7;102*5", "0>2,1>2,5>4");
        x.pass(1);
        x.save();
        x.pass(1);
        Due.type(x, "0>1");
        return x;
    }

    /** "looks; nothing is changed" and "what would be; nothing is changed" */
    private static void promise21To24ChangeNothing() {
        String before = Due.whole(LooksEdgesTest::some, x -> 0);
        DUE.is("ifPosted", Due.whole(LooksEdgesTest::some, x -> x.ifPosted(0, 2, 30)), before);
        DUE.is("bestDay", Due.whole(LooksEdgesTest::some, x -> x.bestDay(1, 2)), before);
        for (int n = 0; n <= 6; n++) {
            int weekday = n;
            DUE.is("bestTown", Due.whole(LooksEdgesTest::some, x -> x.bestTown(weekday)), before);
        }
        for (int n = 0; n <= 2; n++) {
            int what = n;
            DUE.is("ifPassed", Due.whole(LooksEdgesTest::some, x -> x.ifPassed(30, what)), before);
        }
        DUE.is("where", Due.whole(LooksEdgesTest::some, x -> x.where(1, 9999)), before);
        DUE.is("carrier", Due.whole(LooksEdgesTest::some, x -> x.carrier(1, 6)), before);
        DUE.is("bundle", Due.whole(LooksEdgesTest::some, x -> x.bundle(1, 5)), before);
        DUE.is("arrival, told back", Due.whole(LooksEdgesTest::some, x -> x.arrival(1, 0)), before);
        DUE.is("arrival, told forward", Due.whole(LooksEdgesTest::some, x -> x.arrival(1, 1)), before);
        DUE.is("meeting", Due.whole(LooksEdgesTest::some, x -> x.meeting(0, 1, true)), before);
        DUE.is("count", Due.whole(LooksEdgesTest::some, x -> x.count(16)), before);
        DUE.is("lateness", Due.whole(LooksEdgesTest::some, x -> (int) x.lateness()), before);
        DUE.is("fault", Due.whole(LooksEdgesTest::some, x -> x.fault(0)), before);
    }
}
