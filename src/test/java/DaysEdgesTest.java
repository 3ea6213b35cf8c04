/**
 * What the terms tell of the arrival, of a day that passes, of promises and of delays: a test for
 * each sentence that names an edge.
 */
public final class DaysEdgesTest {
    private static final Due DUE = new Due("DaysEdgesTest");
    private static final int NOWHERE = 6;
    // Carrier 0 is in 3 on even days, carrier 1 in 5; on odd days both are in 0.
    private static final String MEET_ON_ODD_DAYS = "30;50";

    public static void main(String[] args) {
        behindThatDay();
        behindThatDayWithACarrier();
        firstItArrives();
        onceADay();
        upTo30DaysAhead();
        upTo30DaysAheadWithACarrier();
        upTo30DaysAheadWhileADayPasses();
        takenOnEachDayAhead();
        handedOverOnEachDayAhead();
        loadDoesNotMatterForIt();
        nothingElseMattersForIt();
        byWhatIsToldNow();
        notByLyingInItsOwnTown();
        theDayGrowsFirst();
        byTheirNumbers();
        byTheirNumbersForFullCarriers();
        thoseThatHaveArrivedAside();
        stayingFirst();
        stayingFirstWithACarrier();
        thenTheLowestNumber();
        theLeastDay();
        toCarriersWhoAreNotFull();
        toAFullCarrierNothingIsHanded();
        eachCarrierCanBeFull();
        noArrivalComesBehindAllDays();
        oneLessAtOnce();
        oneLessByAnArrival();
        whoHasMoreKeepsThem();
        aLotIsDrawnWithAChangeOfHandsOnly();
        theLotBeginsAgainBehind9999();
        belowTheRoughnessOfWhoGetsIt();
        aBrokenSealStaysBroken();
        promiseBehindTheDayOfPosting();
        noDelayWithoutAPromise();
        noDelayWithoutAnArrival();
        delaysBelow0();
        DUE.end();
    }

    /** The day on which the bundle is: NOT_FOUND is none; told in both ways. */
    private static void arrival(String when, MovedStalls x, int bundle, int want) {
        DUE.is(when + ", told back", x.arrival(bundle, 0), want);
        DUE.is(when + ", told forward", x.arrival(bundle, 1), want);
    }

    /** "is the least day behind that day on which it can arrive: on each day from the next one on" */
    private static void behindThatDay() {
        MovedStalls x = Due.with("01", "0>1");
        arrival("who is there today takes it on day 2", x, 0, 3);
        DUE.is("post(1, 0): taken on day 1, the next one", x.post(1, 0), 2);
        arrival("taken on the next day", x, 1, 2);
        x.pass(1);
        arrival("seen a day later", x, 0, 3);
        arrival("seen a day later, taken today", x, 1, 2);
    }

    private static void behindThatDayWithACarrier() {
        MovedStalls x = Due.with("01", "0>1");
        x.pass(2);
        arrival("on the next day", x, 0, 3);
        x.ill(0, 1);
        DUE.is("ill on day 3: pass(1)", x.pass(1), 0);
        DUE.is("not ill any more", x.ill(0, 0), 0);
        DUE.is("is in its town today", x.where(0, 3), 1);
        arrival("but today is not behind today", x, 0, 5);
        DUE.is("pass(1)", x.pass(1), 0);
        DUE.is("pass(1) more", x.pass(1), 1);
    }

    /** "first it arrives, if it is with a carrier who is in its town; otherwise it can change hands" */
    private static void firstItArrives() {
        // On odd days both are in 0, where the stall stands and to which the bundle goes.
        MovedStalls x = Due.with(MEET_ON_ODD_DAYS, "3>0");
        x.pass(2);
        arrival("in the town of the stall", x, 0, 3);
        int lot = x.count(14);
        DUE.is("pass(1)", x.pass(1), 1);
        DUE.is("no change of hands", x.bundle(0, 7), 1);
        DUE.is("no lot", x.count(14), lot);
        DUE.is("with nobody", x.bundle(0, 2), -4);
    }

    /** "otherwise it can change hands once, or stay" */
    private static void onceADay() {
        // All three are at the stall in 0 on odd days; carrier 2 alone comes to 5.
        MovedStalls x = Due.with("30;40;50", "3>5");
        x.pass(2);
        DUE.is("taken", x.bundle(0, 7), 1);
        x.pass(1);
        DUE.is("once", x.bundle(0, 7), 2);
        DUE.is("to the one who arrives", x.bundle(0, 2), 2);
    }

    /** "It is looked for up to 30 days ahead; beyond that there is none." */
    private static void upTo30DaysAhead() {
        for (int day = 0; day <= 8; day++) {
            MovedStalls x = Due.withTours("01");
            if (day > 0) {
                x.pass(day);
            }
            x.ill(0, 28);
            int from = (day + 29) % 2;
            DUE.is("taken 29 days ahead", x.post(from, 1 - from), day + 30);
            arrival("30 days ahead", x, 0, day + 30);
            DUE.is("ifPosted(.., 0)", x.ifPosted(from, 1 - from, 0), day + 30);
            DUE.is("31 days ahead", x.post(1 - from, from), -4);
            arrival("31 days ahead", x, 1, -4);
            DUE.is("31 days ahead: ifPosted(.., 0)", x.ifPosted(1 - from, from, 0), -4);
            DUE.is("31 days ahead, from tomorrow", x.ifPosted(1 - from, from, 1), day + 31);
        }
    }

    private static void upTo30DaysAheadWithACarrier() {
        // Carrier 0 is in 1 on odd days, so on 33 = 3 + 30, but not on 32 = 2 + 30.
        MovedStalls x = Due.with("01", "0>1");
        x.pass(2);
        x.ill(0, 30);
        arrival("on 33, as seen behind 2", x, 0, -4);
        DUE.is("on 33, as seen behind 2: the delay", x.bundle(0, 5), -4);
        x.pass(1);
        arrival("on 33, as seen behind 3", x, 0, 33);
        DUE.is("on 33, as seen behind 3: the delay", x.bundle(0, 5), 1030);
        DUE.is("pass(29)", x.pass(29), 0);
        DUE.is("pass(1)", x.pass(1), 1);
    }

    /**
     * Carrier 0 has the bundle, and is at a stall with carrier 1 on day 30 alone; carrier 1 is at
     * another one with carrier 2 on day 59, who then comes to 5. Carrier 3 brought it to nobody: the
     * stall on the weekday 5 was taken away.
     */
    private static MovedStalls aLongWay(String tourOfCarrier2, int ill) {
        MovedStalls x = Due.withTours("03334;022221;" + tourOfCarrier2 + ";35");
        for (int weekday = 0; weekday <= 6; weekday++) {
            int[] towns = {NOWHERE, NOWHERE, 0, 1, NOWHERE, 3, NOWHERE};
            x.stall(weekday, towns[weekday]);
        }
        x.pass(23);
        x.post(4, 5);
        x.pass(1);
        x.stall(5, NOWHERE);
        x.pass(5);
        x.ill(2, ill);
        return x;
    }

    private static void upTo30DaysAheadWhileADayPasses() {
        MovedStalls x = aLongWay("51", 29);
        DUE.is("day 29: with", x.bundle(0, 2), 0);
        arrival("on 60, as seen behind 29", x, 0, -4);
        x.pass(1);
        DUE.is("on 60, as seen behind 30: handed over", x.bundle(0, 2), 1);
        arrival("on 60, as seen behind 30", x, 0, 60);
        DUE.is("pass(30)", x.pass(30), 1);
        MovedStalls y = aLongWay("51", 30);
        y.pass(1);
        DUE.is("ill on 59: it stays", y.bundle(0, 2), 0);
        MovedStalls z = aLongWay("251", 29);
        z.pass(1);
        DUE.is("on 61, as seen behind 30: it stays", z.bundle(0, 2), 0);
        arrival("on 61, as seen behind 30", z, 0, -4);
    }

    private static void takenOnEachDayAhead() {
        for (int days = 0; days <= 28; days++) {
            MovedStalls x = Due.withTours("01");
            x.ill(0, days);
            int taken = days + 1;
            int from = taken % 2;
            DUE.is("taken on " + taken + ": post()", x.post(from, 1 - from), taken + 1);
            arrival("taken on " + taken, x, 0, taken + 1);
            DUE.is("none before", x.pass(taken), 0);
            DUE.is("taken on " + taken + ": with", x.bundle(0, 2), 0);
            arrival("taken today, on " + taken, x, 0, taken + 1);
            DUE.is("on the day behind it", x.pass(1), 1);
        }
    }

    private static void handedOverOnEachDayAhead() {
        for (int days = 1; days <= 28; days++) {
            int handed = days + 1;
            // Both are in 0 on odd days, or on even ones.
            MovedStalls x = Due.withTours(handed % 2 == 1 ? "30;50" : "03;05");
            x.ill(1, days);
            DUE.is("handed over on " + handed + ": post()", x.post(3, 5), handed + 1);
            arrival("handed over on " + handed, x, 0, handed + 1);
            DUE.is("none before", x.pass(days), 0);
            DUE.is("the day before " + handed, x.bundle(0, 2), 0);
            x.pass(1);
            DUE.is("on " + handed, x.bundle(0, 2), 1);
            DUE.is("on the day behind it", x.pass(1), 1);
        }
    }

    /** "(LOAD does not matter for it" */
    private static void loadDoesNotMatterForIt() {
        MovedStalls x = Due.with("01", "0>1,0>1");
        x.load(1);
        arrival("the first", x, 0, 3);
        arrival("the second, though one is too many", x, 1, 3);
        x.pass(2);
        DUE.is("full", x.carrier(0, 3), 1);
        DUE.is("post to a full one", x.post(1, 0), 4);
        DUE.is("ifPosted to a full one", x.ifPosted(1, 0, 0), 4);
        arrival("that for which there was no room", x, 1, 5);
    }

    /** "nor does anything but tours, the stall and days on which carriers are ill" */
    private static void nothingElseMattersForIt() {
        MovedStalls x = Due.with(MEET_ON_ODD_DAYS, "3>5");
        arrival("at first", x, 0, 4);
        x.rough(0, 9);
        x.rough(1, 9);
        x.load(1);
        for (int i = 0; i < 7; i++) {
            x.post(3, 4);
        }
        arrival("rough, with other bundles", x, 0, 4);
        x.forget(1);
        arrival("one forgotten", x, 0, 4);
        x.pass(1);
        arrival("a day later", x, 0, 4);
        x.stall(3, 1);
        arrival("the stall elsewhere", x, 0, 6);
    }

    /** "by what is told now" */
    private static void byWhatIsToldNow() {
        MovedStalls x = Due.with("01", "0>1");
        x.ill(0, 4);
        arrival("ill until 5", x, 0, 7);
        x.ill(0, 1);
        arrival("ill until 2", x, 0, 3);
        x.ill(0, 0);
        arrival("not ill", x, 0, 3);
        DUE.is("the promise is as it was told", x.bundle(0, 4), 3);
    }

    /** "It does not arrive by lying in its own town; so it cannot be posted there." */
    private static void notByLyingInItsOwnTown() {
        for (int town = 0; town <= 5; town++) {
            MovedStalls x = Due.withTours("0;1;2345");
            DUE.is("post", x.post(town, town), -1);
            DUE.is("ifPosted", x.ifPosted(town, town, 0), -1);
            DUE.is("bestDay", x.bestDay(town, town), -1);
            Due.type(x, town + ">" + town);
            DUE.is("fault", x.fault(1), 2);
            DUE.is("letters", x.letters(), -2);
            DUE.is("none", x.count(9), 0);
        }
    }

    /** "The day grows by 1. Then the bundles are gone through" */
    private static void theDayGrowsFirst() {
        MovedStalls x = Due.with("01", "0>1,1>0");
        x.pass(1);
        DUE.is("in 1 on day 1: that in 0 lies", x.bundle(0, 1), 0);
        DUE.is("in 1 on day 1: that in 1 is taken", x.bundle(1, 2), 0);
        DUE.is("in 0 on day 2: one arrives", x.pass(1), 1);
        DUE.is("arrived on", x.bundle(1, 3), 2);
        DUE.is("in 0 on day 2: one is taken", x.bundle(0, 2), 0);
    }

    /** "Then the bundles are gone through, by their numbers" */
    private static void byTheirNumbers() {
        // The remainders of the lots are 4 and 7: only the first one of two breaks.
        MovedStalls x = Due.with("01*5", "0>1,0>1");
        x.pass(2);
        DUE.is("the lot of 0", x.bundle(0, 6), 1);
        DUE.is("the lot of 1", x.bundle(1, 6), 0);
        // Behind forget() the numbers are new ones: the second one that was posted is 0 now.
        MovedStalls y = Due.with("01*5", "2>1,0>1,0>1");
        y.forget(0);
        y.pass(2);
        DUE.is("forgotten: the lot of 0", y.bundle(0, 6), 1);
        DUE.is("forgotten: the lot of 1", y.bundle(1, 6), 0);
    }

    private static void byTheirNumbersForFullCarriers() {
        for (int load = 1; load <= 8; load++) {
            MovedStalls x = Due.with("01", "0>1,0>1,0>1,0>1,0>1,0>1,0>1,0>1");
            x.load(load);
            x.pass(2);
            for (int b = 0; b < 8; b++) {
                DUE.is("LOAD " + load + ": bundle " + b, x.bundle(b, 2), b < load ? 0 : -4);
            }
        }
    }

    /** "those that have arrived aside" */
    private static void thoseThatHaveArrivedAside() {
        MovedStalls x = Due.with("01*9;10*9", "0>1");
        DUE.is("pass(3)", x.pass(3), 1);
        String before = Due.looks(x);
        DUE.is("pass(1)", x.pass(1), 0);
        DUE.is("pass(30)", x.pass(30), 0);
        DUE.is("arrived on", x.bundle(0, 3), 2);
        DUE.is("with nobody", x.bundle(0, 2), -4);
        DUE.is("arrivals", x.count(10), 1);
        DUE.is("changes of hands", x.count(12), 1);
        x.undo();
        x.undo();
        DUE.is("but for the day all is the same", Due.looks(x), before);
    }

    /** "of several staying first" */
    private static void stayingFirst() {
        // In 0 on the days 3 and 4, in 1 on day 5: taken on the last day on which it is soon enough.
        MovedStalls x = Due.withTours("001");
        x.pass(2);
        DUE.is("post(0, 1)", x.post(0, 1), 5);
        x.pass(1);
        DUE.is("on day 3 it lies", x.bundle(0, 1), 0);
        x.pass(1);
        DUE.is("on day 4 it is taken", x.bundle(0, 2), 0);
        DUE.is("on day 5 it arrives", x.pass(1), 1);
    }

    private static void stayingFirstWithACarrier() {
        // Taken in 2 on day 3; on day 4 both are at the stall in 0, on day 5 both are in 1.
        MovedStalls x = Due.with("201;201", "2>1");
        x.ill(0, 3);
        x.pass(3);
        DUE.is("taken by the one who is not ill", x.bundle(0, 2), 1);
        x.pass(1);
        DUE.is("stays, though 0 is a lower number", x.bundle(0, 2), 1);
        DUE.is("arrives", x.pass(1), 1);
        DUE.is("without another hand", x.count(12), 1);
    }

    /** "then the carrier with the lowest number" */
    private static void thenTheLowestNumber() {
        for (int ill = 0; ill <= 3; ill++) {
            MovedStalls x = Due.with("01;01;01;01", "0>1");
            for (int c = 0; c < ill; c++) {
                x.ill(c, 2);
            }
            x.pass(2);
            DUE.is("the lowest of those who are there", x.bundle(0, 2), ill);
        }
        // At the stall in 0 on day 3, in 5 on day 4: carriers 1 and 2 alike.
        MovedStalls y = Due.with("30;50;50", "3>5");
        y.pass(3);
        DUE.is("handed to the lowest", y.bundle(0, 2), 1);
        MovedStalls z = Due.with("50;30;50", "3>5");
        z.pass(3);
        DUE.is("handed to the lowest, 0", z.bundle(0, 2), 0);
    }

    /** "the one is chosen behind which the arrival (as seen behind today) is the least day" */
    private static void theLeastDay() {
        // All are in 0 on day 1; carrier 0 is in 1 on day 4, carrier 1 on 3, carrier 2 on 2.
        MovedStalls x = Due.with("2033133;203133;201333", "0>1");
        x.pass(1);
        DUE.is("the least day", x.bundle(0, 2), 2);
        DUE.is("arrives on it", x.pass(1), 1);
        MovedStalls y = Due.with("2033133;203133", "0>1");
        y.pass(1);
        DUE.is("the least day of two", y.bundle(0, 2), 1);
        DUE.is("not before", y.pass(1), 0);
        DUE.is("arrives on it, too", y.pass(1), 1);
    }

    /** "that are possible today to carriers who are not full" */
    private static void toCarriersWhoAreNotFull() {
        MovedStalls x = Due.with("2033133;203133;201333", "0>1,0>1,0>1,0>1");
        x.load(1);
        x.pass(1);
        int[] want = {2, 1, 0, -4};
        for (int b = 0; b < 4; b++) {
            DUE.is("LOAD 1: bundle " + b, x.bundle(b, 2), want[b]);
        }
        x.pass(3);
        int[] arrived = {2, 3, 4, -4};
        for (int b = 0; b < 4; b++) {
            DUE.is("LOAD 1: bundle " + b + " arrived", x.bundle(b, 3), arrived[b]);
        }
    }

    private static void toAFullCarrierNothingIsHanded() {
        // Carrier 1 has a bundle for 4, to which nobody comes any more, and is full.
        MovedStalls x = Due.with("30;50;20", "5>2,3>5");
        x.load(1);
        x.pass(2);
        DUE.is("carrier 1 has 0", x.bundle(0, 2), 1);
        DUE.is("carrier 0 has 1", x.bundle(1, 2), 0);
        x.ill(2, 1);
        x.pass(1);
        DUE.is("carrier 1 is full", x.carrier(1, 3), 1);
        DUE.is("so 1 is with carrier 0 still", x.bundle(1, 2), 0);
        arrival("though its arrival is told over carrier 1", x, 1, 6);
        x.load(2);
        x.pass(2);
        DUE.is("with LOAD 2 it is handed over", x.bundle(1, 2), 1);
    }

    private static void eachCarrierCanBeFull() {
        for (int number = 0; number <= 3; number++) {
            // One carrier alone is in 0 and 1 by turns; the others are in 5.
            MovedStalls x = Due.with("5;5;5;5".substring(0, 2 * number) + "01" + ";5;5;5".substring(0, 6 - 2 * number),
                "0>1,0>1");
            x.load(1);
            x.pass(2);
            DUE.is("carrier " + number + " takes one", x.bundle(0, 2), number);
            DUE.is("carrier " + number + " is full", x.carrier(number, 3), 1);
            DUE.is("carrier " + number + " takes no other", x.bundle(1, 1), 0);
        }
        for (int number = 1; number <= 3; number++) {
            // Carrier 0 has two for 5; of those who are in 0 on odd days, one alone comes to 5.
            MovedStalls x = Due.with("30" + ";2".repeat(number - 1) + ";50", "3>5,3>5");
            x.load(2);
            x.pass(2);
            x.load(1);
            x.pass(1);
            DUE.is("carrier " + number + " gets one", x.bundle(0, 2), number);
            DUE.is("carrier " + number + " gets no other", x.bundle(1, 2), 0);
        }
    }

    /** "(No arrival comes behind all days.": staying without one is worse, and better than a change without one */
    private static void noArrivalComesBehindAllDays() {
        // Both are at the stall in 0 on day 30 alone: it is on the weekday 2 there, nowhere else.
        MovedStalls x = Due.withTours("03333;055555");
        for (int weekday = 0; weekday <= 6; weekday++) {
            x.stall(weekday, weekday == 2 ? 0 : NOWHERE);
        }
        DUE.is("on 31, as seen behind 0", x.post(3, 5), -4);
        DUE.is("on 31, as seen behind 1", x.ifPosted(3, 5, 1), 31);
        x.pass(29);
        DUE.is("taken on the last day", x.bundle(0, 2), 0);
        x.pass(1);
        DUE.is("staying has none: handed over", x.bundle(0, 2), 1);
        DUE.is("arrives", x.pass(1), 1);
        MovedStalls y = Due.with("0;0;0", "0>1");
        y.pass(30);
        DUE.is("none has one: it lies", y.bundle(0, 1), 0);
        MovedStalls z = Due.with("01;01", "0>1");
        z.pass(2);
        z.ill(0, 30);
        z.ill(1, 30);
        z.pass(1);
        DUE.is("none has one: it stays with the carrier", z.bundle(0, 2), 0);
        DUE.is("without a lot more", z.count(12), 1);
    }

    /** "(.. A carrier who hands a bundle over has one less at once.)" */
    private static void oneLessAtOnce() {
        // On day 3 bundle 0 goes from carrier 0 to carrier 1, and makes room for bundle 1 in 0.
        MovedStalls x = Due.with(MEET_ON_ODD_DAYS, "3>5,0>3");
        x.load(1);
        x.ill(0, 1);
        x.pass(2);
        DUE.is("carrier 0 is full", x.carrier(0, 3), 1);
        DUE.is("bundle 1 lies", x.bundle(1, 1), 0);
        x.pass(1);
        DUE.is("bundle 0 is handed over", x.bundle(0, 2), 1);
        DUE.is("bundle 1 is taken on the same day", x.bundle(1, 2), 0);
        DUE.is("carrier 0 is full again", x.carrier(0, 3), 1);
        // The other way round bundle 0 came before there was room.
        MovedStalls y = Due.with(MEET_ON_ODD_DAYS, "0>3,3>5");
        y.load(1);
        y.ill(0, 1);
        y.pass(3);
        DUE.is("bundle 1 is handed over", y.bundle(1, 2), 1);
        DUE.is("bundle 0 lies still", y.bundle(0, 1), 0);
    }

    private static void oneLessByAnArrival() {
        MovedStalls x = Due.with("01", "0>1,1>0");
        x.load(1);
        x.ill(0, 1);
        x.pass(2);
        DUE.is("full", x.carrier(0, 3), 1);
        DUE.is("bundle 0 arrives", x.pass(1), 1);
        DUE.is("and bundle 1 is taken on the same day", x.bundle(1, 2), 0);
        MovedStalls y = Due.with("01", "1>0,0>1");
        y.load(1);
        y.ill(0, 1);
        y.pass(3);
        DUE.is("bundle 1 arrives", y.bundle(1, 3), 3);
        DUE.is("bundle 0 came before", y.bundle(0, 1), 1);
    }

    /** "(carriers who have more keep them)" */
    private static void whoHasMoreKeepsThem() {
        MovedStalls x = Due.with("01", "0>1,0>1,0>1");
        x.pass(2);
        x.load(1);
        DUE.is("has more than LOAD", x.carrier(0, 2), 3);
        DUE.is("is full", x.carrier(0, 3), 1);
        x.ill(0, 1);
        x.post(0, 1);
        x.pass(2);
        DUE.is("keeps them", x.carrier(0, 2), 3);
        DUE.is("and takes no more", x.bundle(3, 1), 0);
        DUE.is("all arrive", x.pass(1), 3);
    }

    /** "With a change of hands a lot is drawn" */
    private static void aLotIsDrawnWithAChangeOfHandsOnly() {
        MovedStalls x = Due.with(MEET_ON_ODD_DAYS, "3>5");
        int[] lots = {1, 1, 2084, 9027, 9027, 9027};
        for (int day = 0; day <= 5; day++) {
            DUE.is("the lot on day " + day, x.count(14), lots[day]);
            x.pass(1);
        }
        MovedStalls y = Due.with(MEET_ON_ODD_DAYS, "3>5");
        y.rough(0, 9);
        y.pass(2);
        DUE.is("broken", y.bundle(0, 6), 1);
        y.pass(1);
        DUE.is("a lot for a broken seal, too", y.count(14), 9027);
    }

    /** "x (0 to 9999, 1 at first) becomes (421 * x + 1663) modulo 10000" */
    private static void theLotBeginsAgainBehind9999() {
        MovedStalls x = Due.withTours("01");
        int[] first = {2084, 9027, 2030, 6293, 1016, 9399, 8642, 9945};
        int lot = 1;
        for (int want : first) {
            lot = (421 * lot + 1663) % 10000;
            DUE.is("the formula", lot, want);
        }
        x.load(8);
        DUE.is("at first", x.count(14), 1);
        lot = 1;
        for (int round = 0; round < 27; round++) {
            for (int b = 0; b < 8; b++) {
                x.post(0, 1);
                lot = (421 * lot + 1663) % 10000;
            }
            DUE.is("round " + round, x.pass(4), 8);
            DUE.is("the lot behind round " + round, x.count(14), lot);
            for (int b = 0; b < 8; b++) {
                x.forget(0);
            }
        }
    }

    /** "if the remainder of x by 10 is below the roughness of the carrier who gets the bundle" */
    private static void belowTheRoughnessOfWhoGetsIt() {
        // The remainders are 4 for carrier 0, who takes it, and 7 for carrier 1, to whom it is handed.
        int[][] want = {{4, 7, 0, 0}, {5, 7, 1, 0}, {4, 8, 0, 1}, {9, 0, 1, 0}, {0, 9, 0, 1}, {9, 9, 1, 0}};
        for (int[] one : want) {
            MovedStalls x = Due.with(MEET_ON_ODD_DAYS, "3>5");
            x.rough(0, one[0]);
            x.rough(1, one[1]);
            x.pass(3);
            String rough = "roughness " + one[0] + " and " + one[1];
            DUE.is(rough + ": carrier 0", x.carrier(0, 6), one[2]);
            DUE.is(rough + ": carrier 1", x.carrier(1, 6), one[3]);
            DUE.is(rough + ": the seal", x.bundle(0, 6), one[2] + one[3]);
        }
        MovedStalls y = Due.with(MEET_ON_ODD_DAYS, "3>5");
        y.pass(2);
        y.rough(0, 9);
        y.pass(1);
        DUE.is("who gives it does not matter", y.bundle(0, 6), 0);
    }

    private static void aBrokenSealStaysBroken() {
        MovedStalls x = Due.with(MEET_ON_ODD_DAYS, "3>5");
        x.rough(0, 5);
        for (int day = 1; day <= 4; day++) {
            x.pass(1);
            DUE.is("day " + day, x.bundle(0, 6), day < 2 ? 0 : 1);
            DUE.is("day " + day + ": count(8)", x.count(8), day < 2 ? 0 : 1);
        }
        x.rough(0, 0);
        x.pass(30);
        DUE.is("arrived, and broken", x.bundle(0, 6), 1);
    }

    /** "When a bundle is posted, its promise is its arrival as seen behind the day" */
    private static void promiseBehindTheDayOfPosting() {
        MovedStalls x = Due.withTours("01");
        int[] want = {3, 3, 5, 5, 7};
        for (int day = 0; day <= 4; day++) {
            DUE.is("day " + day + ": post(0, 1)", x.post(0, 1), want[day]);
            DUE.is("day " + day + ": the promise", x.bundle(day, 4), want[day]);
            DUE.is("day " + day + ": the day", x.bundle(day, 8), day);
            x.pass(1);
        }
        x.ill(0, 30);
        DUE.is("what comes does not change it", x.bundle(0, 4), 3);
        DUE.is("there is none", x.post(0, 1), -4);
        DUE.is("there is none: the promise", x.bundle(5, 4), -4);
    }

    /** "NOT_FOUND if either is not found": the promise */
    private static void noDelayWithoutAPromise() {
        MovedStalls x = Due.withTours("01");
        x.ill(0, 30);
        x.post(0, 1);
        x.ill(0, 0);
        arrival("has an arrival now", x, 0, 3);
        DUE.is("without a promise", x.bundle(0, 5), -4);
        DUE.is("without a promise: lateness()", x.lateness(), 0.0);
        DUE.is("arrives", x.pass(3), 1);
        DUE.is("arrived without a promise", x.bundle(0, 5), -4);
        DUE.is("arrived without a promise: lateness()", x.lateness(), 0.0);
    }

    private static void noDelayWithoutAnArrival() {
        MovedStalls x = Due.with("01", "0>1");
        x.ill(0, 30);
        DUE.is("without an arrival", x.bundle(0, 5), -4);
        DUE.is("without an arrival: lateness()", x.lateness(), 0.0);
        DUE.is("the promise", x.bundle(0, 4), 3);
        x.ill(0, 29);
        DUE.is("taken on 30, on 31 there", x.bundle(0, 5), -4);
        x.pass(1);
        DUE.is("as seen behind day 1", x.bundle(0, 5), 1000 + 31 - 3);
        DUE.is("as seen behind day 1: lateness()", x.lateness(), 28.0);
    }

    /** "less the promise": 1000 are added, so that delays below 0 are told, too */
    private static void delaysBelow0() {
        for (int days = 1; days <= 27; days += 2) {
            MovedStalls x = Due.withTours("01");
            x.ill(0, days);
            DUE.is("ill for " + days, x.post(0, 1), days + 2);
            x.ill(0, 0);
            DUE.is("not ill: the delay", x.bundle(0, 5), 1000 + 3 - (days + 2));
            DUE.is("not ill: lateness()", x.lateness(), 3.0 - (days + 2));
            x.pass(3);
            DUE.is("arrived: the delay", x.bundle(0, 5), 1000 + 3 - (days + 2));
            DUE.is("arrived: lateness()", x.lateness(), 3.0 - (days + 2));
        }
    }
}
