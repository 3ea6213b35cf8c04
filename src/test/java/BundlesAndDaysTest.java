/** Promises 6 to 8: post, forget, pass. */
public final class BundlesAndDaysTest {
    private static final Due DUE = new Due("BundlesAndDaysTest");
    // Carrier 0 is in 0 on even days, in 1 on odd ones; carrier 1 in 1, 0, 2 from day 0 on:
    // both are in the town 1 on day 3, and in the town 0, where the stall stands, on day 4.
    private static final String TWO = "01;102";

    public static void main(String[] args) {
        promise6Post();
        promise6PostWithoutPromise();
        promise6PostLooks30DaysAhead();
        promise6PostLimit();
        promise7Forget();
        promise7ForgetCarriedAndArrived();
        promise8Pass();
        promise8Lots();
        promise8BrokenSealsStayBroken();
        promise8FullCarriers();
        promise8HandingOverMakesRoom();
        promise8ByTheirNumbers();
        promise8ArrivalMakesRoom();
        promise8LowestCarrier();
        promise8OneChangeADay();
        promise8StaysWithoutArrival();
        promise8NowhereIsNoTown();
        promise8OnlyAtTheStall();
        DUE.end();
    }

    private static void promise6Post() {
        MovedStalls x = Due.withTours(TWO);
        DUE.is("post(0, 2)", x.post(0, 2), 2);
        DUE.is("post(1, 2)", x.post(1, 2), 5);
        DUE.is("lies", x.bundle(1, 1), 1);
        DUE.is("goes to", x.bundle(1, 0), 2);
        DUE.is("promise", x.bundle(1, 4), 5);
        DUE.is("seal", x.bundle(1, 6), 0);
        DUE.is("changes of hands", x.bundle(1, 7), 0);
        DUE.is("day", x.bundle(1, 8), 0);
        DUE.is("count(4)", x.count(4), 2);
        DUE.is("count(9)", x.count(9), 2);
        DUE.is("history", x.count(16), 3);
        int[][] wrong = {{0, 0}, {5, 5}, {6, 0}, {-1, 0}, {0, 6}, {0, -1}, {6, 6}};
        for (int[] pair : wrong) {
            DUE.is("post(" + pair[0] + ", " + pair[1] + ")", x.post(pair[0], pair[1]), -1);
        }
        DUE.is("errors post nothing", x.count(9), 2);
        DUE.is("errors are no changes", x.count(16), 3);
        x.pass(3);
        DUE.is("day 3: post(0, 2)", x.post(0, 2), 5);
        DUE.is("day 3: day", x.bundle(2, 8), 3);
    }

    private static void promise6PostWithoutPromise() {
        MovedStalls x = Due.withTours(TWO);
        DUE.is("post(5, 0)", x.post(5, 0), -4);
        DUE.is("is posted", x.count(4), 1);
        DUE.is("counts as posted", x.count(9), 1);
        DUE.is("promise", x.bundle(0, 4), -4);
        DUE.is("delay", x.bundle(0, 5), -4);
        DUE.is("lies", x.bundle(0, 1), 5);
        DUE.is("is a change", x.count(16), 2);
        DUE.is("undo()", x.undo(), 1);
        DUE.is("undone", x.count(4), 0);
        DUE.is("without carriers", new MovedStalls().post(0, 1), -4);
    }

    private static void promise6PostLooks30DaysAhead() {
        MovedStalls x = Due.withTours("01");
        x.ill(0, 27);
        DUE.is("taken on 28", x.post(0, 1), 29);
        x.ill(0, 28);
        DUE.is("taken on 29, arrives on 30", x.post(1, 0), 30);
        DUE.is("taken on 30, would arrive on 31", x.post(0, 1), -4);
        DUE.is("forward, 30", x.arrival(1, 1), 30);
        DUE.is("forward, 31", x.arrival(2, 1), -4);
        x.ill(0, 29);
        DUE.is("is there on 30 alone", x.post(1, 0), -4);
        x.pass(1);
        DUE.is("a day later it is not yet found", x.arrival(3, 0), -4);
        x.pass(1);
        DUE.is("two days later it is found", x.arrival(3, 0), 32);
        DUE.is("but the promise stays", x.bundle(3, 4), -4);
    }

    private static void promise6PostLimit() {
        MovedStalls x = new MovedStalls();
        for (int i = 1; i <= 8; i++) {
            x.post(0, 1);
            DUE.is("posted", x.count(4), i);
        }
        DUE.is("the ninth", x.post(0, 1), -3);
        DUE.is("the ninth, wrong", x.post(0, 0), -1);
        DUE.is("count(4)", x.count(4), 8);
        DUE.is("count(9)", x.count(9), 8);
        x.forget(0);
        DUE.is("room again", x.post(2, 1), -4);
        DUE.is("the last one", x.bundle(7, 1), 2);
        DUE.is("count(9)", x.count(9), 9);
        MovedStalls y = Due.with("01", "0>1,0>1,0>1,0>1,0>1,0>1,0>1,0>1");
        y.pass(30);
        DUE.is("all have arrived", y.count(7), 8);
        DUE.is("those count, too", y.post(0, 1), -3);
    }

    private static void promise7Forget() {
        MovedStalls x = Due.with(TWO, "0>2,1>2,3>4");
        DUE.is("forget(3)", x.forget(3), -1);
        DUE.is("forget(-1)", x.forget(-1), -1);
        DUE.is("errors are no changes", x.count(16), 2);
        DUE.is("forget(1)", x.forget(1), 2);
        DUE.is("is a change", x.count(16), 3);
        DUE.is("0 stays", x.bundle(0, 1), 0);
        DUE.is("2 is now 1: lies", x.bundle(1, 1), 3);
        DUE.is("2 is now 1: goes to", x.bundle(1, 0), 4);
        DUE.is("there is no 2", x.bundle(2, 0), -1);
        DUE.is("count(4)", x.count(4), 2);
        DUE.is("count(9)", x.count(9), 3);
        DUE.is("count(11)", x.count(11), 1);
        DUE.is("forget(1), the last", x.forget(1), 1);
        DUE.is("forget(0)", x.forget(0), 0);
        DUE.is("forget(0), none", x.forget(0), -1);
        DUE.is("count(11)", x.count(11), 3);
        x.undo();
        x.undo();
        x.undo();
        DUE.is("undone", x.bundle(1, 4), 5);
        DUE.is("undone: the last", x.bundle(2, 1), 3);
    }

    private static void promise7ForgetCarriedAndArrived() {
        MovedStalls x = Due.with(TWO, "0>2,1>2,0>2");
        x.pass(1);
        DUE.is("carrier 1 has two", x.carrier(1, 2), 2);
        x.forget(0);
        DUE.is("carrier 1 has one", x.carrier(1, 2), 1);
        DUE.is("which is now 1", x.bundle(1, 2), 1);
        DUE.is("arrives", x.pass(1), 1);
        DUE.is("forget the arrived", x.forget(1), 1);
        DUE.is("count(7)", x.count(7), 0);
        DUE.is("arrivals so far", x.count(10), 1);
        DUE.is("changes so far", x.count(12), 2);
        DUE.is("carrier 1's changes", x.carrier(1, 5), 2);
    }

    private static void promise8Pass() {
        MovedStalls x = Due.with(TWO, "0>2,1>2");
        DUE.is("pass(0)", x.pass(0), -1);
        DUE.is("pass(31)", x.pass(31), -1);
        DUE.is("pass(-1)", x.pass(-1), -1);
        DUE.is("errors are no changes", x.count(16), 2);
        DUE.is("day 1", x.pass(1), 0);
        DUE.is("0 is taken by carrier 1", x.bundle(0, 2), 1);
        DUE.is("0 lies no more", x.bundle(0, 1), -4);
        DUE.is("1 stays: carrier 0 is no faster", x.bundle(1, 1), 1);
        DUE.is("day 2", x.pass(1), 1);
        DUE.is("0 has arrived", x.bundle(0, 3), 2);
        DUE.is("0 is with nobody", x.bundle(0, 2), -4);
        DUE.is("day 3", x.pass(1), 0);
        DUE.is("1 goes with the lowest number", x.bundle(1, 2), 0);
        DUE.is("day 4", x.pass(1), 0);
        DUE.is("1 is handed over", x.bundle(1, 2), 1);
        DUE.is("day 5", x.pass(1), 1);
        DUE.is("1 has arrived", x.bundle(1, 3), 5);
        DUE.is("changes of hands", x.count(12), 3);
        DUE.is("1's changes of hands", x.bundle(1, 7), 2);
        DUE.is("the day", x.count(0), 5);
        DUE.is("pass(30)", x.pass(30), 0);
        DUE.is("the day then", x.count(0), 35);
        DUE.is("arrived stays", x.bundle(1, 3), 5);
        MovedStalls y = Due.with(TWO, "0>2,1>2");
        DUE.is("at once: pass(5)", y.pass(5), 2);
        DUE.is("at once: one change", y.count(16), 3);
    }

    private static void promise8Lots() {
        // The lots of the three changes of hands: 2084, 9027, 2030.
        MovedStalls x = Due.with(TWO, "0>2,1>2");
        x.rough(0, 7);
        x.rough(1, 5);
        x.pass(1);
        DUE.is("lot 1", x.count(14), 2084);
        DUE.is("seal 0 is broken: 4 < 5", x.bundle(0, 6), 1);
        x.pass(1);
        DUE.is("no lot for an arrival", x.count(14), 2084);
        x.pass(1);
        DUE.is("lot 2", x.count(14), 9027);
        DUE.is("seal 1 is whole: 7 = 7", x.bundle(1, 6), 0);
        x.pass(1);
        DUE.is("lot 3", x.count(14), 2030);
        DUE.is("seal 1 is broken: 0 < 5", x.bundle(1, 6), 1);
        DUE.is("carrier 0's broken", x.carrier(0, 6), 0);
        DUE.is("carrier 1's broken", x.carrier(1, 6), 2);
        DUE.is("count(8)", x.count(8), 2);
        x.pass(2);
        DUE.is("count(8), arrived ones, too", x.count(8), 2);
        MovedStalls y = Due.with(TWO, "0>2,1>2");
        y.pass(30);
        DUE.is("roughness 0 breaks none", y.count(8), 0);
        DUE.is("lots are drawn all the same", y.count(14), 2030);
    }

    private static void promise8BrokenSealsStayBroken() {
        MovedStalls x = Due.with(TWO, "0>2,1>2");
        x.rough(0, 8);
        x.rough(1, 4);
        x.pass(5);
        DUE.is("seal 0: 4 is not below 4", x.bundle(0, 6), 0);
        DUE.is("seal 1: 7 < 8", x.bundle(1, 6), 1);
        DUE.is("carrier 0's broken", x.carrier(0, 6), 1);
        DUE.is("carrier 1 broke what was broken", x.carrier(1, 6), 0);
        DUE.is("count(8)", x.count(8), 1);
    }

    private static void promise8FullCarriers() {
        MovedStalls x = Due.with(TWO, "0>2,0>2");
        x.load(1);
        x.pass(1);
        DUE.is("0 is taken", x.bundle(0, 2), 1);
        DUE.is("1 stays: carrier 1 is full", x.bundle(1, 1), 0);
        DUE.is("LOAD does not matter for the arrival", x.arrival(1, 0), 5);
        DUE.is("pass(3)", x.pass(3), 1);
        DUE.is("1 is taken later", x.bundle(1, 2), 1);
        DUE.is("pass(1)", x.pass(1), 1);
        DUE.is("1 arrived", x.bundle(1, 3), 5);
        DUE.is("1's delay", x.bundle(1, 5), 1003);
    }

    // Carriers 0 and 1 are at the stall in 0 on even days, in 3 and in 5 on odd ones.
    private static final String STAR = "03;05";

    private static void promise8HandingOverMakesRoom() {
        MovedStalls x = Due.with(STAR, "3>5,0>3");
        x.load(1);
        x.pass(2);
        DUE.is("0 is handed over", x.bundle(0, 2), 1);
        DUE.is("1 is taken at once", x.bundle(1, 2), 0);
        DUE.is("both arrive", x.pass(1), 2);
    }

    private static void promise8ByTheirNumbers() {
        MovedStalls x = Due.with(STAR, "0>3,3>5");
        x.load(1);
        x.pass(2);
        DUE.is("1 is handed over", x.bundle(1, 2), 1);
        DUE.is("0 came before, and found the carrier full", x.bundle(0, 1), 0);
        DUE.is("1 arrives", x.pass(1), 1);
        DUE.is("0 arrives", x.pass(2), 1);
    }

    private static void promise8ArrivalMakesRoom() {
        MovedStalls x = Due.with("03", "0>3");
        x.load(1);
        x.pass(2);
        DUE.is("post(3, 0)", x.post(3, 0), 4);
        DUE.is("0 arrives", x.pass(1), 1);
        DUE.is("1 is taken on the same day", x.bundle(1, 2), 0);
        DUE.is("1 arrives", x.pass(1), 1);
    }

    private static void promise8LowestCarrier() {
        MovedStalls x = Due.with("01;01;01", "0>1,0>1");
        x.load(1);
        x.pass(2);
        DUE.is("0 goes with 0", x.bundle(0, 2), 0);
        DUE.is("1 goes with 1", x.bundle(1, 2), 1);
        // Carrier 0 is there on day 1, but never in 1; carrier 1 comes on day 2, and is in 1 on day 3.
        MovedStalls y = Due.with("002;01;012", "0>1");
        y.pass(2);
        DUE.is("the least day, not the lowest number", y.bundle(0, 2), 1);
    }

    private static void promise8OneChangeADay() {
        // Carrier 1 takes it in 4 on day 2; on day 3 carriers 0 and 1 are both in the town 0.
        MovedStalls x = Due.with("30;40;005", "4>3");
        x.pass(2);
        DUE.is("taken", x.bundle(0, 2), 1);
        DUE.is("not handed over yet", x.bundle(0, 7), 1);
        x.pass(1);
        DUE.is("handed over at the stall", x.bundle(0, 2), 0);
        DUE.is("two changes", x.bundle(0, 7), 2);
        DUE.is("arrives", x.pass(1), 1);
        // A bundle that lies where the stall stands is taken on one day, and handed over on another.
        MovedStalls y = Due.with("0;03", "0>3");
        y.pass(1);
        DUE.is("day 1: arrival", y.arrival(0, 0), 3);
        DUE.is("day 1: arrival, forward", y.arrival(0, 1), 3);
        DUE.is("day 1: stays", y.bundle(0, 1), 0);
        y.pass(1);
        DUE.is("day 2: taken by carrier 1 at once", y.bundle(0, 2), 1);
        DUE.is("day 2: one change", y.bundle(0, 7), 1);
    }

    private static void promise8StaysWithoutArrival() {
        MovedStalls x = Due.with("0;0", "0>1");
        DUE.is("pass(30)", x.pass(30), 0);
        DUE.is("no arrival comes behind all days: it stays", x.bundle(0, 1), 0);
        DUE.is("no change of hands", x.count(12), 0);
        DUE.is("no lot", x.count(14), 1);
    }

    private static void promise8NowhereIsNoTown() {
        MovedStalls x = Due.with(STAR, "3>5");
        x.pass(1);
        for (int weekday = 0; weekday <= 6; weekday++) {
            x.stall(weekday, 6);
        }
        x.ill(0, 3);
        x.ill(1, 3);
        x.pass(2);
        DUE.is("ill carriers are at no stall", x.bundle(0, 2), 0);
        x.pass(10);
        DUE.is("nor is anyone else", x.bundle(0, 2), 0);
        DUE.is("arrival", x.arrival(0, 0), -4);
        DUE.is("arrival, forward", x.arrival(0, 1), -4);
    }

    private static void promise8OnlyAtTheStall() {
        MovedStalls x = Due.with(STAR, "3>5");
        x.stall(2, 1);
        x.stall(4, 6);
        DUE.is("arrival", x.arrival(0, 0), 7);
        x.pass(5);
        DUE.is("with carrier 0 past the days without stall", x.bundle(0, 2), 0);
        x.pass(1);
        DUE.is("handed over on day 6", x.bundle(0, 2), 1);
        DUE.is("arrives", x.pass(1), 1);
        MovedStalls y = Due.with("05;03", "3>5");
        y.stall(2, 1);
        y.pass(3);
        DUE.is("carrier 1 keeps it, too", y.bundle(0, 2), 1);
        y.pass(1);
        DUE.is("handed over on day 4", y.bundle(0, 2), 0);
    }
}
