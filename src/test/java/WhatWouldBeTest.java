/** Promises 21 to 24: ifPosted, bestDay, bestTown, ifPassed. */
public final class WhatWouldBeTest {
    private static final Due DUE = new Due("WhatWouldBeTest");
    private static final String TWO = "01;102";

    public static void main(String[] args) {
        promise21IfPosted();
        promise21Errors();
        promise22BestDay();
        promise22BestDayUpTo13();
        promise22Errors();
        promise23BestTown();
        promise23MostThenLeastSum();
        promise23Errors();
        promise24IfPassed();
        promise24IfPassedWithFullCarriers();
        promise24Errors();
        nothingIsChanged();
        DUE.end();
    }

    private static void promise21IfPosted() {
        MovedStalls x = Due.withTours(TWO);
        int[] want = {2, 5, 5, 5, 8, 8, 8, 8 + 3, 11, 11, 14};
        for (int day = 0; day < want.length; day++) {
            DUE.is("ifPosted(0, 2, " + day + ")", x.ifPosted(0, 2, day), want[day]);
        }
        DUE.is("ifPosted(0, 2, 30)", x.ifPosted(0, 2, 30), 32);
        DUE.is("nobody comes there: ifPosted(5, 0, 0)", x.ifPosted(5, 0, 0), -4);
        x.pass(3);
        DUE.is("from today on: ifPosted(0, 2, 0)", x.ifPosted(0, 2, 0), 5);
        DUE.is("from today on: ifPosted(0, 2, 1)", x.ifPosted(0, 2, 1), 8);
        MovedStalls y = Due.withTours("01");
        y.ill(0, 28);
        DUE.is("30 days from today", y.ifPosted(0, 1, 0), -4);
        DUE.is("30 days from tomorrow", y.ifPosted(0, 1, 1), 31);
    }

    private static void promise21Errors() {
        MovedStalls x = Due.withTours(TWO);
        DUE.is("ifPosted(0, 0, 0)", x.ifPosted(0, 0, 0), -1);
        DUE.is("ifPosted(6, 0, 0)", x.ifPosted(6, 0, 0), -1);
        DUE.is("ifPosted(-1, 0, 0)", x.ifPosted(-1, 0, 0), -1);
        DUE.is("ifPosted(0, 6, 0)", x.ifPosted(0, 6, 0), -1);
        DUE.is("ifPosted(0, -1, 0)", x.ifPosted(0, -1, 0), -1);
        DUE.is("ifPosted(0, 2, -1)", x.ifPosted(0, 2, -1), -1);
        DUE.is("ifPosted(0, 2, 31)", x.ifPosted(0, 2, 31), -1);
        for (int i = 0; i < 8; i++) {
            x.post(0, 1);
        }
        DUE.is("8 bundles do not matter", x.ifPosted(0, 2, 0), 2);
    }

    private static void promise22BestDay() {
        MovedStalls x = Due.withTours(TWO);
        DUE.is("bestDay(0, 2)", x.bestDay(0, 2), 0);
        x.pass(1);
        DUE.is("day 1: 4, 3, 2 days", x.bestDay(0, 2), 2);
        x.pass(1);
        DUE.is("day 2: 3, 2 days", x.bestDay(0, 2), 1);
        DUE.is("nobody comes there", x.bestDay(5, 0), -4);
        DUE.is("nobody comes from there", x.bestDay(0, 5), -4);
        DUE.is("without carriers", new MovedStalls().bestDay(0, 1), -4);
    }

    private static void promise22BestDayUpTo13() {
        MovedStalls x = Due.withTours("01");
        x.ill(0, 13);
        DUE.is("2 days on 13", x.bestDay(0, 1), 13);
        x.ill(0, 15);
        DUE.is("4 days on 13, 3 days on 14", x.bestDay(0, 1), 13);
        x.ill(0, 11);
        DUE.is("2 days on 11 and on 13", x.bestDay(0, 1), 11);
        x.ill(0, 30);
        DUE.is("none from today, but later ones", x.bestDay(0, 1), 13);
    }

    private static void promise22Errors() {
        MovedStalls x = Due.withTours(TWO);
        DUE.is("bestDay(0, 0)", x.bestDay(0, 0), -1);
        DUE.is("bestDay(6, 0)", x.bestDay(6, 0), -1);
        DUE.is("bestDay(-1, 0)", x.bestDay(-1, 0), -1);
        DUE.is("bestDay(0, 6)", x.bestDay(0, 6), -1);
        DUE.is("bestDay(0, -1)", x.bestDay(0, -1), -1);
    }

    private static MovedStalls withoutStall(String tours, String letters) {
        MovedStalls x = Due.with(tours, letters);
        for (int weekday = 0; weekday <= 6; weekday++) {
            x.stall(weekday, 6);
        }
        return x;
    }

    private static void promise23BestTown() {
        DUE.is("without bundles", Due.withTours(TWO).bestTown(3), 0);
        DUE.is("without carriers", new MovedStalls().bestTown(0), 0);
        MovedStalls x = withoutStall("13;15", "3>5");
        DUE.is("bestTown(2)", x.bestTown(2), 1);
        DUE.is("a later weekday's meeting: bestTown(1)", x.bestTown(1), 1);
        MovedStalls y = withoutStall("43;45", "3>5");
        DUE.is("another town: bestTown(2)", y.bestTown(2), 4);
        DUE.is("another weekday: bestTown(6)", y.bestTown(6), 4);
        y.stall(2, 4);
        DUE.is("found without that weekday", y.bestTown(3), 0);
        DUE.is("the weekday on which it stands well", y.bestTown(2), 4);
        y.pass(30);
        DUE.is("all have arrived", y.bestTown(2), 0);
        MovedStalls z = withoutStall("53;54", "3>4");
        DUE.is("the town 5", z.bestTown(0), 5);
    }

    private static void promise23MostThenLeastSum() {
        // On even days 0 and 1 are in the town 1, and 2 and 3 in the town 2.
        MovedStalls x = withoutStall("13;15;24;20", "3>5,4>0,4>0");
        DUE.is("most arrivals", x.bestTown(2), 2);
        MovedStalls y = withoutStall("13;15;24;20", "3>5,4>0");
        DUE.is("as many, the same sum: the least number", y.bestTown(2), 1);
        MovedStalls z = withoutStall("13;15;24;20", "3>5,3>5,4>0");
        DUE.is("most arrivals, the other way round", z.bestTown(2), 1);
        // On weekday 3 carriers 0 and 1 are in the town 2 on day 3, in the town 1 on day 10.
        MovedStalls w = withoutStall("3312;215", "3>5");
        w.stall(3, 1);
        DUE.is("the town 1", w.arrival(0, 0), 11);
        w.stall(3, 2);
        DUE.is("the town 2", w.arrival(0, 0), 5);
        DUE.is("the least sum, not the least number", w.bestTown(3), 2);
    }

    private static void promise23Errors() {
        MovedStalls x = Due.withTours(TWO);
        DUE.is("bestTown(-1)", x.bestTown(-1), -1);
        DUE.is("bestTown(7)", x.bestTown(7), -1);
    }

    private static void promise24IfPassed() {
        MovedStalls x = Due.with(TWO, "0>2,1>2");
        x.rough(0, 7);
        x.rough(1, 5);
        int[][] want = {{0, 1, 1}, {1, 1, 1}, {1, 2, 1}, {1, 3, 2}, {2, 3, 2}};
        for (int days = 1; days <= 5; days++) {
            for (int what = 0; what <= 2; what++) {
                DUE.is("ifPassed(" + days + ", " + what + ")", x.ifPassed(days, what), want[days - 1][what]);
            }
        }
        DUE.is("ifPassed(30, 0)", x.ifPassed(30, 0), 2);
        x.pass(3);
        DUE.is("day 3: ifPassed(1, 0)", x.ifPassed(1, 0), 0);
        DUE.is("day 3: ifPassed(1, 1)", x.ifPassed(1, 1), 1);
        DUE.is("day 3: ifPassed(1, 2)", x.ifPassed(1, 2), 1);
        DUE.is("day 3: ifPassed(2, 0)", x.ifPassed(2, 0), 1);
        x.rough(1, 0);
        DUE.is("not rough: ifPassed(2, 2)", x.ifPassed(2, 2), 0);
        MovedStalls y = Due.with(TWO, "1>2");
        y.rough(0, 5);
        y.rough(1, 9);
        DUE.is("a broken seal does not break again", y.ifPassed(5, 2), 1);
        DUE.is("though it changes hands twice", y.ifPassed(5, 1), 2);
    }

    private static void promise24IfPassedWithFullCarriers() {
        MovedStalls x = Due.with("01", "0>1,0>1,0>1,0>1");
        DUE.is("LOAD matters: ifPassed(3, 0)", x.ifPassed(3, 0), 3);
        DUE.is("LOAD matters: ifPassed(3, 1)", x.ifPassed(3, 1), 3);
        x.load(8);
        DUE.is("LOAD 8: ifPassed(3, 0)", x.ifPassed(3, 0), 4);
    }

    private static void promise24Errors() {
        MovedStalls x = Due.withTours(TWO);
        DUE.is("ifPassed(0, 0)", x.ifPassed(0, 0), -1);
        DUE.is("ifPassed(-1, 0)", x.ifPassed(-1, 0), -1);
        DUE.is("ifPassed(31, 0)", x.ifPassed(31, 0), -1);
        DUE.is("ifPassed(1, -1)", x.ifPassed(1, -1), -1);
        DUE.is("ifPassed(1, 3)", x.ifPassed(1, 3), -1);
        DUE.is("no bundles: ifPassed(30, 0)", x.ifPassed(30, 0), 0);
    }

    private static void nothingIsChanged() {
        MovedStalls x = Due.with(TWO, "0>2,1>2,5>4");
        x.rough(1, 9);
        x.pass(1);
        Due.type(x, "abc");
        String before = Due.looks(x);
        x.ifPosted(0, 2, 5);
        x.bestDay(0, 2);
        for (int weekday = 0; weekday <= 6; weekday++) {
            x.bestTown(weekday);
        }
        x.ifPassed(30, 0);
        x.ifPassed(30, 1);
        x.ifPassed(30, 2);
        DUE.is("after what would be", Due.looks(x), before);
        DUE.is("the pad", x.count(15), 3);
        DUE.is("no changes", x.count(16), 4);
        DUE.is("the stall", x.stall(2, 0), 0);
        DUE.is("no snapshot", x.restore(), -2);
    }
}
