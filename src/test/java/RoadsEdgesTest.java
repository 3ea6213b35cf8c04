import java.util.Arrays;

/**
 * The terms "Towns, days, the stall", "Carriers" and "Bundles" of the document: a test for each
 * sentence that names an edge.
 */
public final class RoadsEdgesTest {
    private static final Due DUE = new Due("RoadsEdgesTest");
    private static final int NOWHERE = 6;
    // Carrier 0 is in 3 on even days, carrier 1 in 5; on odd days both are in 0.
    private static final String MEET_ON_ODD_DAYS = "30;50";

    public static void main(String[] args) {
        theFirstDayIs0();
        theWeekBeginsAgain();
        theWeekBeginsAgainForHandingOver();
        theWeekBeginsAgainForMeetings();
        atFirstTheStallStandsIn0OnAllWeekdays();
        nowhereIsInNoTown();
        carriersComeInOrder();
        aCarrierNeverGoesAway();
        aTourBeginsAgainBehindItsLastTown();
        aBundleGoesOnWhenTheTourBeginsAgain();
        atFirstNeverIll();
        illOnAllDaysBefore();
        whoIsIllTakesNothing();
        whoIsIllArrivesNowhere();
        whoIsIllHandsNothingOver();
        whoIsIllGetsNothing();
        whoIsIllIsNotNowhereWithTheStall();
        theStallIsNotThere();
        whoIsIllMeetsNobody();
        onTheDayItself();
        roughnessAndTheLot();
        fullWithLoad();
        fullForOneMoreOnly();
        loadAtFirst3();
        meetInTheSameTownOnly();
        numbersOf1LessBehindAForgotten();
        aSealIsWholeAtFirst();
        liesOrIsWithACarrierOrHasArrived();
        takenByWhoIsThereOnThisDay();
        takenInAnyTown();
        handedOverInTheTownOfTheStallOnly();
        handedOverIfBothAreThere();
        bothAreChangesOfHands();
        DUE.end();
    }

    /** "Days are numbered from 0; count(0) tells today." */
    private static void theFirstDayIs0() {
        MovedStalls x = new MovedStalls();
        DUE.is("a new object: today", x.count(0), 0);
        DUE.is("save() on the first day", x.save(), 0);
        x.pass(1);
        DUE.is("the day behind", x.count(0), 1);
        x.pass(30);
        DUE.is("30 days more", x.count(0), 31);
    }

    private static MovedStalls stallOnOneWeekday(String tours, int weekday, int town) {
        MovedStalls x = Due.withTours(tours);
        for (int other = 0; other <= 6; other++) {
            x.stall(other, other == weekday ? town : NOWHERE);
        }
        return x;
    }

    /** "The weekday of a day is the day modulo 7." */
    private static void theWeekBeginsAgain() {
        int[] towns = {1, 2, 3, 4, 5, NOWHERE, 0};
        MovedStalls x = new MovedStalls();
        for (int weekday = 0; weekday <= 6; weekday++) {
            x.stall(weekday, towns[weekday]);
        }
        for (int day = 0; day <= 28; day++) {
            int town = towns[day % 7];
            DUE.is("the stall on day " + day, x.count(1), town == NOWHERE ? -4 : town);
            x.pass(1);
        }
    }

    private static void theWeekBeginsAgainForHandingOver() {
        // The least odd day of the weekday; the day behind it the bundle arrives.
        int[] meets = {7, 1 + 14, 9, 3, 11, 5, 13};
        for (int weekday = 0; weekday <= 6; weekday++) {
            MovedStalls x = stallOnOneWeekday(MEET_ON_ODD_DAYS, weekday, 0);
            int arrives = meets[weekday] + 1;
            String on = "stall on weekday " + weekday;
            DUE.is(on + ": post(3, 5)", x.post(3, 5), arrives);
            DUE.is(on + ": told back", x.arrival(0, 0), arrives);
            DUE.is(on + ": told forward", x.arrival(0, 1), arrives);
            DUE.is(on + ": none arrives before", x.pass(arrives - 1), 0);
            DUE.is(on + ": arrives", x.pass(1), 1);
        }
    }

    private static void theWeekBeginsAgainForMeetings() {
        for (int weekday = 0; weekday <= 6; weekday++) {
            MovedStalls x = stallOnOneWeekday("0;0", weekday, 0);
            for (int day = 0; day <= 15; day++) {
                int ahead = (weekday - day + 20) % 7 + 1;
                DUE.is("day " + day + ", stall on weekday " + weekday, x.meeting(0, 1, true), day + ahead);
                x.pass(1);
            }
        }
    }

    /** "at first it stands in the town 0 on all weekdays" */
    private static void atFirstTheStallStandsIn0OnAllWeekdays() {
        MovedStalls x = Due.withTours("0;0;1;1");
        for (int day = 0; day <= 8; day++) {
            DUE.is("at first, day " + day, x.count(1), 0);
            DUE.is("at first, meeting in 0", x.meeting(0, 1, true), day + 1);
            DUE.is("at first, none in 1", x.meeting(2, 3, true), -4);
            x.pass(1);
        }
    }

    /** "For each weekday the stall stands in a town, or nowhere" */
    private static void nowhereIsInNoTown() {
        for (int town = 0; town <= 5; town++) {
            String tour = String.valueOf(town);
            MovedStalls x = stallOnOneWeekday(tour + ";" + tour, 3, NOWHERE);
            DUE.is("nowhere: count(1)", x.count(1), -4);
            DUE.is("nowhere: no meeting in " + town, x.meeting(0, 1, true), -4);
            DUE.is("nowhere: but off the stall", x.meeting(0, 1, false), 1);
        }
    }

    /** "numbered from 0 in the order in which they came" */
    private static void carriersComeInOrder() {
        MovedStalls x = Due.withTours("5;4");
        Due.type(x, "3");
        x.tours();
        Due.type(x, "2");
        x.tours();
        for (int c = 0; c <= 3; c++) {
            DUE.is("carrier " + c, x.where(c, 0), 5 - c);
        }
    }

    /** "a carrier never goes away" */
    private static void aCarrierNeverGoesAway() {
        MovedStalls x = Due.with("01;10;23;32", "0>1,2>3");
        x.ill(3, 30);
        x.pass(30);
        x.forget(0);
        x.pass(30);
        DUE.is("all four are here", x.count(2), 4);
        DUE.is("nobody is ill", x.count(3), 0);
        DUE.is("the last one", x.where(3, 61), 2);
    }

    /** "in the town of the place (d modulo the length of the tour, from 0) of it" */
    private static void aTourBeginsAgainBehindItsLastTown() {
        String towns = "3014250";
        for (int length = 1; length <= 7; length++) {
            MovedStalls x = Due.withTours(towns.substring(0, length));
            int[] days = {0, length - 1, length, length + 1, 2 * length - 1, 2 * length, 9998, 9999};
            for (int day : days) {
                DUE.is("a tour of " + length + ": where(0, " + day + ")", x.where(0, day),
                    towns.charAt(day % length) - '0');
            }
            x.pass(length);
            DUE.is("a day of the tour more: where(0, 0)", x.where(0, 0), 3);
        }
    }

    private static void aBundleGoesOnWhenTheTourBeginsAgain() {
        MovedStalls x = Due.withTours("012");
        DUE.is("taken at the last place, arrives at the first", x.post(2, 0), 3);
        DUE.is("one place more", x.post(2, 1), 4);
        DUE.is("told forward", x.arrival(1, 1), 4);
        DUE.is("pass(2)", x.pass(2), 0);
        DUE.is("the tour begins again", x.pass(1), 1);
        DUE.is("and goes on", x.pass(1), 1);
        MovedStalls y = Due.withTours("1234550");
        DUE.is("seven towns: post(0, 1)", y.post(0, 1), 7);
        DUE.is("seven towns: pass(6)", y.pass(6), 0);
        DUE.is("seven towns: pass(1)", y.pass(1), 1);
    }

    /** "(0 at first: never ill)" */
    private static void atFirstNeverIll() {
        MovedStalls x = Due.withTours("1;2");
        DUE.is("at first: count(3)", x.count(3), 0);
        DUE.is("at first: where(0, 0)", x.where(0, 0), 1);
        DUE.is("at first: carrier(0, 4)", x.carrier(0, 4), 0);
        x.pass(3);
        Due.type(x, "3");
        x.tours();
        DUE.is("who came later: carrier(2, 4)", x.carrier(2, 4), 0);
        DUE.is("who came later: where(2, 0)", x.where(2, 0), 3);
    }

    /** "A carrier is ill on all days before the day on which the carrier is about again" */
    private static void illOnAllDaysBefore() {
        MovedStalls x = Due.withTours("4");
        x.pass(2);
        DUE.is("about again on", x.ill(0, 2), 5);
        for (int day = 0; day <= 7; day++) {
            DUE.is("where(0, " + day + ")", x.where(0, day), day < 5 ? -4 : 4);
        }
        for (int day = 2; day <= 7; day++) {
            DUE.is("ill on day " + day, x.count(3), day < 5 ? 1 : 0);
            DUE.is("as told", x.carrier(0, 4), 5);
            x.pass(1);
        }
    }

    /** "who is ill is in no town", and so takes no bundle */
    private static void whoIsIllTakesNothing() {
        MovedStalls x = Due.with("01", "0>1");
        x.ill(0, 2);
        DUE.is("ill on day 2: arrival", x.arrival(0, 0), 5);
        DUE.is("ill on day 2: told forward", x.arrival(0, 1), 5);
        x.pass(2);
        DUE.is("ill on day 2: it lies", x.bundle(0, 1), 0);
        x.pass(2);
        DUE.is("taken on day 4", x.bundle(0, 2), 0);
    }

    private static void whoIsIllArrivesNowhere() {
        MovedStalls x = Due.with("01", "0>1");
        x.pass(2);
        x.ill(0, 1);
        DUE.is("ill on day 3: arrival", x.arrival(0, 0), 5);
        DUE.is("ill on day 3: told forward", x.arrival(0, 1), 5);
        DUE.is("ill on day 3: none arrives", x.pass(1), 0);
        DUE.is("ill on day 3: keeps it", x.bundle(0, 2), 0);
        DUE.is("day 4", x.pass(1), 0);
        DUE.is("arrives on day 5", x.pass(1), 1);
    }

    /** A bundle that one of two carriers took on day 2: on day 3 it could be handed over. */
    private static MovedStalls taken(int giver) {
        MovedStalls x = Due.with(giver == 0 ? MEET_ON_ODD_DAYS : "50;30", "3>5");
        x.pass(2);
        DUE.is("taken by carrier " + giver, x.bundle(0, 2), giver);
        return x;
    }

    private static void handedOverOnDay5(String why, MovedStalls x, int giver) {
        String told = why + ", from " + giver;
        DUE.is(told + ": arrival", x.arrival(0, 0), 6);
        DUE.is(told + ": told forward", x.arrival(0, 1), 6);
        for (int day = 3; day <= 4; day++) {
            x.pass(1);
            DUE.is(told + ": day " + day, x.bundle(0, 2), giver);
        }
        x.pass(1);
        DUE.is(told + ": day 5", x.bundle(0, 2), 1 - giver);
        DUE.is(told + ": day 6", x.pass(1), 1);
    }

    private static void whoIsIllHandsNothingOver() {
        for (int giver = 0; giver <= 1; giver++) {
            MovedStalls x = taken(giver);
            x.ill(giver, 1);
            handedOverOnDay5("the giver is ill", x, giver);
        }
    }

    private static void whoIsIllGetsNothing() {
        for (int giver = 0; giver <= 1; giver++) {
            MovedStalls x = taken(giver);
            x.ill(1 - giver, 1);
            handedOverOnDay5("the getter is ill", x, giver);
        }
    }

    private static void whoIsIllIsNotNowhereWithTheStall() {
        for (int giver = 0; giver <= 1; giver++) {
            MovedStalls x = taken(giver);
            x.stall(3, NOWHERE);
            x.ill(0, 1);
            x.ill(1, 1);
            handedOverOnDay5("both are ill, and the stall is nowhere", x, giver);
        }
    }

    private static void theStallIsNotThere() {
        for (int giver = 0; giver <= 1; giver++) {
            for (int town = 1; town <= NOWHERE; town++) {
                MovedStalls x = taken(giver);
                x.stall(3, town);
                handedOverOnDay5("the stall is in " + town, x, giver);
            }
        }
    }

    private static void whoIsIllMeetsNobody() {
        MovedStalls x = Due.withTours("2;2");
        x.stall(5, 2);
        x.ill(0, 4);
        DUE.is("one is ill until 5", x.meeting(0, 1, false), 5);
        DUE.is("one is ill until 5, the other way round", x.meeting(1, 0, false), 5);
        x.ill(1, 6);
        DUE.is("both are ill until 5 and 7", x.meeting(0, 1, false), 7);
        DUE.is("at the stall, on day 12", x.meeting(0, 1, true), 12);
        x.ill(0, 6);
        DUE.is("both are ill until 7", x.meeting(0, 1, false), 7);
    }

    /** On the day on which a carrier is about again, the carrier is not ill. */
    private static void onTheDayItself() {
        MovedStalls x = Due.with("01", "0>1");
        x.ill(0, 1);
        x.pass(2);
        DUE.is("takes on it", x.bundle(0, 2), 0);
        MovedStalls y = Due.with("55051", "0>1");
        y.pass(2);
        y.ill(0, 1);
        DUE.is("arrives on it", y.arrival(0, 0), 4);
        DUE.is("arrives on it, told forward", y.arrival(0, 1), 4);
        DUE.is("arrives on it: pass(2)", y.pass(2), 1);
        MovedStalls z = Due.with(MEET_ON_ODD_DAYS, "3>5");
        z.ill(0, 1);
        z.ill(1, 2);
        z.pass(3);
        DUE.is("gets on it", z.bundle(0, 2), 1);
        DUE.is("meets on it", z.meeting(0, 1, false), 5);
    }

    /** "A carrier has a roughness, 0 to 9.": the seals of 8 bundles, with the remainders of their lots. */
    private static void roughnessAndTheLot() {
        int[] remainders = {4, 7, 0, 3, 6, 9, 2, 5};
        for (int roughness = 0; roughness <= 9; roughness++) {
            MovedStalls x = Due.with("01*" + roughness, "0>1,0>1,0>1,0>1,0>1,0>1,0>1,0>1");
            x.load(8);
            x.pass(2);
            int broken = 0;
            for (int b = 0; b < 8; b++) {
                int breaks = remainders[b] < roughness ? 1 : 0;
                broken += breaks;
                DUE.is("roughness " + roughness + ", lot " + remainders[b], x.bundle(b, 6), breaks);
            }
            DUE.is("roughness " + roughness + ": count(8)", x.count(8), broken);
            DUE.is("roughness " + roughness + ": carrier(0, 6)", x.carrier(0, 6), broken);
        }
    }

    /** "Who has as many bundles as LOAD is full.": for each LOAD */
    private static void fullWithLoad() {
        for (int load = 1; load <= 8; load++) {
            MovedStalls x = Due.with("01", "0>1,0>1,0>1,0>1,0>1,0>1,0>1,0>1");
            x.load(load);
            DUE.is("LOAD " + load + ", none: full", x.carrier(0, 3), 0);
            x.pass(2);
            DUE.is("LOAD " + load + ": has", x.carrier(0, 2), load);
            DUE.is("LOAD " + load + ": full", x.carrier(0, 3), 1);
            DUE.is("LOAD " + load + ": lie", x.count(5), 8 - load);
            x.forget(0);
            DUE.is("LOAD " + load + ", one less: full", x.carrier(0, 3), 0);
            DUE.is("LOAD " + load + ", one less: has", x.carrier(0, 2), load - 1);
        }
    }

    private static void fullForOneMoreOnly() {
        MovedStalls x = Due.with("01", "0>1,0>1");
        x.pass(2);
        x.post(0, 1);
        x.post(0, 1);
        DUE.is("has 2 of 3: full", x.carrier(0, 3), 0);
        x.ill(0, 1);
        x.pass(2);
        DUE.is("one more is taken", x.bundle(2, 2), 0);
        DUE.is("two more are not", x.bundle(3, 1), 0);
        DUE.is("has 3 of 3: full", x.carrier(0, 3), 1);
    }

    /** "LOAD, 1 to 8, at first 3." */
    private static void loadAtFirst3() {
        MovedStalls x = Due.with("01", "0>1,0>1,0>1,0>1");
        DUE.is("at first: count(13)", x.count(13), 3);
        x.pass(2);
        DUE.is("at first: has", x.carrier(0, 2), 3);
        DUE.is("at first: the fourth lies", x.bundle(3, 1), 0);
    }

    /** "Two carriers meet on a day, if both are in the same town on it." */
    private static void meetInTheSameTownOnly() {
        MovedStalls x = Due.withTours("01;12;10;5");
        DUE.is("never in the same town", x.meeting(0, 2, false), -4);
        DUE.is("one is where the other was", x.meeting(0, 1, false), -4);
        DUE.is("in 1 on even days", x.meeting(1, 2, false), 2);
        DUE.is("elsewhere", x.meeting(0, 3, false), -4);
    }

    private static int[] allOf(MovedStalls x, int bundle) {
        int[] all = new int[9];
        for (int what = 0; what <= 8; what++) {
            all[what] = x.bundle(bundle, what);
        }
        return all;
    }

    /** Bundles that differ in all that can be told of them: some arrived, some carried, some broken. */
    private static MovedStalls eight() {
        MovedStalls x = Due.with("01*5;102", "0>1,0>2");
        x.pass(1);
        x.post(1, 2);
        x.post(5, 4);
        x.pass(2);
        x.post(0, 2);
        x.post(1, 0);
        x.pass(1);
        x.post(2, 0);
        x.post(3, 5);
        return x;
    }

    /** "when one is forgotten, those with greater numbers get numbers that are 1 less" */
    private static void numbersOf1LessBehindAForgotten() {
        int[][] before = new int[8][];
        MovedStalls all = eight();
        for (int b = 0; b < 8; b++) {
            before[b] = allOf(all, b);
        }
        for (int gone = 0; gone < 8; gone++) {
            MovedStalls x = eight();
            DUE.is("forget(" + gone + ")", x.forget(gone), 7);
            for (int b = 0; b < 7; b++) {
                int was = b < gone ? b : b + 1;
                DUE.is("behind forget(" + gone + ") bundle " + b, Arrays.toString(allOf(x, b)),
                    Arrays.toString(before[was]));
            }
            x.post(4, 3);
            DUE.is("a new one is the last", x.bundle(7, 1), 4);
        }
    }

    /** "Its seal is whole at first, or broken." */
    private static void aSealIsWholeAtFirst() {
        MovedStalls x = Due.with("01*9", "0>1");
        DUE.is("posted by letters()", x.bundle(0, 6), 0);
        x.post(1, 0);
        DUE.is("posted by post()", x.bundle(1, 6), 0);
        x.pass(2);
        DUE.is("broken", x.bundle(0, 6), 1);
        x.forget(0);
        x.post(0, 1);
        DUE.is("whole behind a broken one", x.bundle(1, 6), 0);
    }

    /** "It lies in a town, is with a carrier, or has arrived." */
    private static void liesOrIsWithACarrierOrHasArrived() {
        MovedStalls x = Due.with("01", "0>1");
        int[][] want = {{0, -4, -4, 1, 0, 0}, {0, -4, -4, 1, 0, 0}, {-4, 0, -4, 0, 1, 0}, {-4, -4, 3, 0, 0, 1}};
        for (int day = 0; day <= 3; day++) {
            for (int i = 0; i < 3; i++) {
                DUE.is("day " + day + ": bundle(0, " + (1 + i) + ")", x.bundle(0, 1 + i), want[day][i]);
                DUE.is("day " + day + ": count(" + (5 + i) + ")", x.count(5 + i), want[day][3 + i]);
            }
            x.pass(1);
        }
    }

    /** "In a day, a bundle that lies in a town can be taken by a carrier who is there on this day" */
    private static void takenByWhoIsThereOnThisDay() {
        // The carrier is in 0 on the days 0, 3, 6.
        MovedStalls x = Due.with("021", "0>1");
        x.pass(1);
        DUE.is("who was there yesterday takes nothing", x.bundle(0, 1), 0);
        x.pass(1);
        DUE.is("nor who will be there tomorrow", x.bundle(0, 1), 0);
        x.pass(1);
        DUE.is("who is there today takes it", x.bundle(0, 2), 0);
    }

    private static void takenInAnyTown() {
        for (int town = 0; town <= 5; town++) {
            int goal = (town + 1) % 6;
            MovedStalls x = Due.withTours(goal + "" + town);
            DUE.is("in the town " + town, x.post(town, goal), 2);
            x.pass(1);
            DUE.is("taken in the town " + town, x.bundle(0, 2), 0);
        }
    }

    /** "if both are, on this day, in the town in which the stall stands on it" */
    private static void handedOverInTheTownOfTheStallOnly() {
        for (int stall = 0; stall <= NOWHERE; stall++) {
            for (int town = 0; town <= 2; town++) {
                MovedStalls x = Due.with("3" + town + ";5" + town, "3>5");
                x.stall(3, stall);
                x.pass(2);
                String both = "day 3: both in " + town + ", the stall in " + stall;
                DUE.is(both + ": ifPassed(1, 1)", x.ifPassed(1, 1), stall == town ? 1 : 0);
                x.pass(1);
                DUE.is(both, x.bundle(0, 2) == 1 ? 1 : 0, stall == town ? 1 : 0);
            }
        }
    }

    private static void handedOverIfBothAreThere() {
        MovedStalls y = Due.with("31;50", "3>5");
        DUE.is("the giver is elsewhere", y.arrival(0, 0), -4);
        DUE.is("the giver is elsewhere, told forward", y.arrival(0, 1), -4);
        MovedStalls x = Due.with("30;51", "3>5");
        DUE.is("the getter is elsewhere", x.arrival(0, 0), -4);
        DUE.is("the getter is elsewhere, told forward", x.arrival(0, 1), -4);
    }

    /** "Both is a change of hands." */
    private static void bothAreChangesOfHands() {
        MovedStalls x = Due.with(MEET_ON_ODD_DAYS, "3>5");
        int[][] want = {{0, 0, 0, 0}, {0, 0, 0, 0}, {1, 1, 1, 0}, {2, 2, 1, 1}, {2, 2, 1, 1}};
        for (int day = 0; day <= 4; day++) {
            DUE.is("day " + day + ": of the bundle", x.bundle(0, 7), want[day][0]);
            DUE.is("day " + day + ": of all", x.count(12), want[day][1]);
            DUE.is("day " + day + ": to carrier 0", x.carrier(0, 5), want[day][2]);
            DUE.is("day " + day + ": to carrier 1", x.carrier(1, 5), want[day][3]);
            x.pass(1);
        }
        DUE.is("an arrival is none", x.bundle(0, 3), 4);
    }
}
