/** Promises 1 to 5: a new object, stall, ill, rough, load. */
public final class StallsAndCarriersTest {
    private static final Due DUE = new Due("StallsAndCarriersTest");

    public static void main(String[] args) {
        promise1NewObject();
        promise2Stall();
        promise2StallOnWeekdays();
        promise3Ill();
        promise3IllCarriersDoNothing();
        promise4Rough();
        promise4RoughBreaksSeals();
        promise5Load();
        promise5LoadBelowWhatIsCarried();
        DUE.end();
    }

    private static void promise1NewObject() {
        MovedStalls x = new MovedStalls();
        for (int what = 0; what <= 16; what++) {
            int want = what == 13 ? 3 : what == 14 ? 1 : 0;
            DUE.is("new: count(" + what + ")", x.count(what), want);
        }
        DUE.is("new: lateness()", x.lateness(), 0.0);
        DUE.is("new: carrier(0, 0)", x.carrier(0, 0), -1);
        DUE.is("new: bundle(0, 0)", x.bundle(0, 0), -1);
        DUE.is("new: undo()", x.undo(), -2);
        DUE.is("new: restore()", x.restore(), -2);
        DUE.is("new: clear()", x.clear(), 0);
        for (int weekday = 0; weekday <= 6; weekday++) {
            DUE.is("new: stall(" + weekday + ", 1)", x.stall(weekday, 1), 0);
        }
        DUE.is("another object is not touched", new MovedStalls().count(1), 0);
    }

    private static void promise2Stall() {
        MovedStalls x = new MovedStalls();
        DUE.is("stall(0, 6)", x.stall(0, 6), 0);
        DUE.is("nowhere: count(1)", x.count(1), -4);
        DUE.is("stall(0, 5)", x.stall(0, 5), 6);
        DUE.is("count(1)", x.count(1), 5);
        DUE.is("stall(0, 5) again", x.stall(0, 5), 5);
        DUE.is("a change also if nothing is different", x.count(16), 3);
        DUE.is("stall(6, 1)", x.stall(6, 1), 0);
        DUE.is("stall(-1, 0)", x.stall(-1, 0), -1);
        DUE.is("stall(7, 0)", x.stall(7, 0), -1);
        DUE.is("stall(0, -1)", x.stall(0, -1), -1);
        DUE.is("stall(0, 7)", x.stall(0, 7), -1);
        DUE.is("stall(least, greatest)", x.stall(Integer.MIN_VALUE, Integer.MAX_VALUE), -1);
        DUE.is("errors are no changes", x.undo(), 3);
        DUE.is("undone", x.stall(6, 2), 0);
    }

    private static void promise2StallOnWeekdays() {
        MovedStalls x = new MovedStalls();
        x.stall(1, 5);
        x.stall(6, 3);
        x.pass(6);
        DUE.is("day 6: count(1)", x.count(1), 3);
        x.pass(1);
        DUE.is("day 7: count(1)", x.count(1), 0);
        x.pass(1);
        DUE.is("day 8: count(1)", x.count(1), 5);
        x.pass(19);
        DUE.is("day 27: count(1)", x.count(1), 3);
    }

    private static void promise3Ill() {
        MovedStalls x = Due.withTours("01;102");
        DUE.is("ill(0, 1)", x.ill(0, 1), 2);
        DUE.is("where(0, 0)", x.where(0, 0), -4);
        DUE.is("where(0, 1)", x.where(0, 1), -4);
        DUE.is("where(0, 2)", x.where(0, 2), 0);
        DUE.is("carrier(0, 4)", x.carrier(0, 4), 2);
        DUE.is("carrier(1, 4)", x.carrier(1, 4), 0);
        DUE.is("count(3)", x.count(3), 1);
        DUE.is("ill(1, 30)", x.ill(1, 30), 31);
        DUE.is("count(3), both", x.count(3), 2);
        DUE.is("ill(0, 0)", x.ill(0, 0), 0);
        DUE.is("carrier(0, 4), well", x.carrier(0, 4), 0);
        DUE.is("where(0, 0), well", x.where(0, 0), 0);
        x.pass(5);
        DUE.is("day 5: ill(0, 30)", x.ill(0, 30), 36);
        DUE.is("day 5: ill(0, 2), told anew", x.ill(0, 2), 8);
        DUE.is("days before are ill, too", x.where(0, 3), -4);
        x.pass(2);
        DUE.is("day 7: count(3)", x.count(3), 2);
        x.pass(1);
        DUE.is("day 8: count(3)", x.count(3), 1);
        DUE.is("day 8: carrier(0, 4), as told", x.carrier(0, 4), 8);
        DUE.is("history", x.count(16), 4);
        x.undo();
        x.undo();
        DUE.is("ill(2, 1)", x.ill(2, 1), -1);
        DUE.is("ill(-1, 1)", x.ill(-1, 1), -1);
        DUE.is("ill(0, 31)", x.ill(0, 31), -1);
        DUE.is("ill(0, -1)", x.ill(0, -1), -1);
        DUE.is("errors are no changes", x.count(16), 2);
        DUE.is("no carriers: ill(0, 0)", new MovedStalls().ill(0, 0), -1);
    }

    private static void promise3IllCarriersDoNothing() {
        // Carrier 0 would take the bundle on day 2, and arrive on day 3.
        MovedStalls x = Due.with("01", "0>1");
        x.ill(0, 1);
        DUE.is("about again just in time", x.arrival(0, 0), 3);
        x.ill(0, 2);
        DUE.is("about again too late", x.arrival(0, 0), 5);
        DUE.is("pass(3)", x.pass(3), 0);
        DUE.is("lies still", x.bundle(0, 1), 0);
        x.pass(1);
        DUE.is("taken", x.bundle(0, 2), 0);
        x.ill(0, 1);
        DUE.is("an ill carrier keeps it", x.pass(1), 0);
        DUE.is("is with the ill one", x.bundle(0, 2), 0);
        DUE.is("arrives when about again", x.pass(2), 1);
        DUE.is("arrived on", x.bundle(0, 3), 7);
    }

    private static void promise4Rough() {
        MovedStalls x = Due.withTours("01;102*4");
        DUE.is("rough(0, 9)", x.rough(0, 9), 0);
        DUE.is("rough(0, 3)", x.rough(0, 3), 9);
        DUE.is("rough(1, 0)", x.rough(1, 0), 4);
        DUE.is("carrier(0, 1)", x.carrier(0, 1), 3);
        DUE.is("carrier(1, 1)", x.carrier(1, 1), 0);
        DUE.is("rough(0, 10)", x.rough(0, 10), -1);
        DUE.is("rough(0, -1)", x.rough(0, -1), -1);
        DUE.is("rough(2, 0)", x.rough(2, 0), -1);
        DUE.is("rough(-1, 0)", x.rough(-1, 0), -1);
        DUE.is("errors change nothing", x.carrier(0, 1), 3);
        DUE.is("undo()", x.undo(), 3);
        DUE.is("undone", x.carrier(1, 1), 4);
    }

    private static void promise4RoughBreaksSeals() {
        // The first lot is 421 + 1663 = 2084: below a roughness of 5, but not of 4.
        MovedStalls x = Due.with("01", "0>1");
        x.rough(0, 4);
        x.pass(2);
        DUE.is("roughness 4: the lot", x.count(14), 2084);
        DUE.is("roughness 4: the seal", x.bundle(0, 6), 0);
        MovedStalls y = Due.with("01", "0>1");
        y.rough(0, 5);
        y.pass(2);
        DUE.is("roughness 5: the lot", y.count(14), 2084);
        DUE.is("roughness 5: the seal", y.bundle(0, 6), 1);
    }

    private static void promise5Load() {
        MovedStalls x = new MovedStalls();
        DUE.is("load(8)", x.load(8), 3);
        DUE.is("load(1)", x.load(1), 8);
        DUE.is("count(13)", x.count(13), 1);
        DUE.is("load(0)", x.load(0), -1);
        DUE.is("load(9)", x.load(9), -1);
        DUE.is("load(-1)", x.load(-1), -1);
        DUE.is("errors change nothing", x.count(13), 1);
        DUE.is("load(1) again", x.load(1), 1);
        DUE.is("a change also if nothing is different", x.count(16), 3);
        x.undo();
        x.undo();
        DUE.is("undone", x.count(13), 8);
    }

    private static void promise5LoadBelowWhatIsCarried() {
        // Carrier 0 is in the town 0 on day 2, and takes as many as LOAD.
        MovedStalls x = Due.with("01", "0>1,0>1,0>1,0>1,0>1");
        x.pass(2);
        DUE.is("has LOAD", x.carrier(0, 2), 3);
        DUE.is("is full", x.carrier(0, 3), 1);
        x.load(4);
        DUE.is("is not full", x.carrier(0, 3), 0);
        x.load(2);
        DUE.is("has more", x.carrier(0, 2), 3);
        DUE.is("who has more is full", x.carrier(0, 3), 1);
        DUE.is("all that are kept arrive", x.pass(1), 3);
        DUE.is("then takes LOAD", x.pass(1), 0);
        DUE.is("has two", x.carrier(0, 2), 2);
        DUE.is("and they arrive", x.pass(1), 2);
    }
}
