/** Promises 25 to 27: undo, save, restore. */
public final class HistoryTest {
    private static final Due DUE = new Due("HistoryTest");
    private static final String TWO = "01;102";

    public static void main(String[] args) {
        promise25UndoOfEachChange();
        promise25FourStates();
        promise25NoChanges();
        promise25ThePadAndTheSnapshotStay();
        promise25WhatComesAnewIsNew();
        promise26Save();
        promise27Restore();
        promise27RestoreOfStallsAndDays();
        promise27RestoreIsAChange();
        promise27RestoreKeepsPadAndHistory();
        DUE.end();
    }

    private static MovedStalls some() {
        MovedStalls x = Due.with("01*7;102*5", "0>2,1>2,5>4");
        x.pass(1);
        x.save();
        x.pass(1);
        return x;
    }

    private static void change(MovedStalls x, int which) {
        switch (which) {
            case 0:
                x.stall(2, 6);
                break;
            case 1:
                x.ill(0, 3);
                break;
            case 2:
                x.rough(1, 1);
                break;
            case 3:
                x.post(1, 0);
                break;
            case 4:
                x.forget(0);
                break;
            case 5:
                x.pass(9);
                break;
            case 6:
                x.load(7);
                break;
            case 7:
                Due.type(x, "34*2;5");
                x.tours();
                break;
            case 8:
                Due.type(x, "0>1,4>5");
                x.letters();
                break;
            case 9:
                x.restore();
                break;
            default:
                x.post(5, 4);
                break;
        }
    }

    private static void promise25UndoOfEachChange() {
        for (int which = 0; which <= 10; which++) {
            MovedStalls x = some();
            x.undo();
            x.undo();
            int states = x.count(16);
            String before = everything(x);
            change(x, which);
            DUE.is("change " + which + ": states", x.count(16), states + 1);
            DUE.is("change " + which + " changes something", everything(x).equals(before) ? 1 : 0, 0);
            DUE.is("change " + which + ": undo()", x.undo(), states);
            DUE.is("change " + which + ": undone", everything(x), before);
        }
        DUE.is("a new object: undo()", new MovedStalls().undo(), -2);
    }

    private static String everything(MovedStalls x) {
        StringBuilder all = new StringBuilder(Due.looks(x));
        for (int weekday = 0; weekday <= 6; weekday++) {
            all.append(' ').append(x.stall(weekday, 0));
            x.undo();
        }
        return all.toString();
    }

    private static void promise25FourStates() {
        MovedStalls x = new MovedStalls();
        for (int i = 1; i <= 8; i++) {
            x.load(i);
            DUE.is("states", x.count(16), i < 4 ? i : 4);
        }
        int[] loads = {7, 6, 5, 4};
        for (int i = 0; i < 4; i++) {
            DUE.is("undo()", x.undo(), 3 - i);
            DUE.is("LOAD", x.count(13), loads[i]);
        }
        DUE.is("the oldest ones are dropped", x.undo(), -2);
        DUE.is("LOAD", x.count(13), 4);
        x.load(2);
        DUE.is("a change behind undos: undo()", x.undo(), 0);
        DUE.is("LOAD", x.count(13), 4);
    }

    private static void promise25NoChanges() {
        MovedStalls x = some();
        int states = x.count(16);
        x.undo();
        x.append('0');
        x.fault(0);
        x.clear();
        x.save();
        x.stall(7, 0);
        x.ill(2, 0);
        x.rough(0, 10);
        x.load(0);
        x.post(0, 0);
        x.forget(9);
        x.pass(0);
        x.tours();
        x.letters();
        Due.type(x, "0;1;2");
        x.tours();
        DUE.is("no changes", x.count(16), states - 1);
        DUE.is("undo()", x.undo(), states - 2);
        DUE.is("undone what was one", x.count(0), 0);
        MovedStalls y = new MovedStalls();
        y.restore();
        y.undo();
        DUE.is("errors of restore and undo", y.count(16), 0);
    }

    private static void promise25ThePadAndTheSnapshotStay() {
        MovedStalls x = Due.withTours(TWO);
        x.load(5);
        Due.type(x, "0>2");
        x.letters();
        Due.type(x, "xyz");
        DUE.is("undo()", x.undo(), 2);
        DUE.is("no bundle", x.count(4), 0);
        DUE.is("the pad stays", x.count(15), 3);
        x.save();
        DUE.is("undo()", x.undo(), 1);
        DUE.is("LOAD", x.count(13), 3);
        x.restore();
        DUE.is("the snapshot stays", x.count(13), 5);
    }

    private static void promise25WhatComesAnewIsNew() {
        MovedStalls x = new MovedStalls();
        Due.type(x, "010*9");
        x.tours();
        x.post(0, 1);
        x.pass(4);
        x.ill(0, 9);
        DUE.is("changes", x.carrier(0, 5), 1);
        DUE.is("broken", x.carrier(0, 6), 1);
        DUE.is("changes of the bundle", x.bundle(0, 7), 1);
        DUE.is("broken seal", x.bundle(0, 6), 1);
        for (int i = 0; i < 4; i++) {
            x.undo();
        }
        Due.type(x, "5");
        DUE.is("another carrier", x.tours(), 1);
        int[] want = {1, 0, 0, 0, 0, 0, 0};
        for (int what = 0; what < want.length; what++) {
            DUE.is("another carrier: carrier(0, " + what + ")", x.carrier(0, what), want[what]);
        }
        DUE.is("another tour", x.where(0, 2), 5);
        MovedStalls y = Due.with("01*9", "0>1");
        y.pass(3);
        y.forget(0);
        y.post(2, 3);
        int[] parcel = {3, 2, -4, -4, -4, -4, 0, 0, 3};
        for (int what = 0; what < parcel.length; what++) {
            DUE.is("another bundle: bundle(0, " + what + ")", y.bundle(0, what), parcel[what]);
        }
    }

    private static void promise27RestoreOfStallsAndDays() {
        MovedStalls x = Due.withTours(TWO);
        x.pass(3);
        for (int weekday = 0; weekday <= 6; weekday++) {
            x.stall(weekday, weekday % 3 + 1);
        }
        x.post(0, 2);
        x.save();
        x.forget(0);
        for (int weekday = 0; weekday <= 6; weekday++) {
            x.stall(weekday, 6);
        }
        x.pass(4);
        x.post(1, 2);
        x.restore();
        DUE.is("the day of the bundle", x.bundle(0, 8), 3);
        DUE.is("where it lies", x.bundle(0, 1), 0);
        for (int weekday = 0; weekday <= 6; weekday++) {
            DUE.is("the stall on weekday " + weekday, x.stall(weekday, 0), weekday % 3 + 1);
            x.undo();
        }
        DUE.is("undo() of the restore", x.undo(), 2);
        DUE.is("the day of the other bundle", x.bundle(0, 8), 7);
        DUE.is("where the other bundle lies", x.bundle(0, 1), 1);
        for (int weekday = 0; weekday <= 6; weekday++) {
            DUE.is("nowhere on weekday " + weekday, x.stall(weekday, 0), 6);
            x.undo();
        }
    }

    private static void promise26Save() {
        MovedStalls x = Due.with(TWO, "0>2,1>2");
        DUE.is("save()", x.save(), 0);
        x.pass(7);
        DUE.is("day 7: save()", x.save(), 7);
        DUE.is("is no change", x.count(16), 3);
        x.pass(2);
        x.restore();
        DUE.is("in place of the one that was", x.count(0), 7);
        x.pass(1);
        x.save();
        x.undo();
        DUE.is("undo() leaves it", x.restore(), 8);
    }

    private static void promise27Restore() {
        MovedStalls fresh = Due.with("01*7;102*5", "0>2,1>2,5>4");
        fresh.pass(1);
        String saved = Due.looks(fresh);
        DUE.is("the looks differ", Due.looks(some()).equals(saved) ? 1 : 0, 0);
        for (int which = 0; which <= 10; which++) {
            MovedStalls x = some();
            DUE.is("restore()", x.restore(), 1);
            DUE.is("everything is restored", Due.looks(x), saved);
            change(x, which);
            x.stall(3, 4);
            x.pass(5);
            DUE.is("restore() again", x.restore(), 1);
            DUE.is("the snapshot stays", Due.looks(x), saved);
            DUE.is("the stall", x.stall(3, 0), 0);
        }
        DUE.is("without a snapshot", new MovedStalls().restore(), -2);
    }

    private static void promise27RestoreIsAChange() {
        MovedStalls x = some();
        String before = Due.looks(x);
        int states = x.count(16);
        x.restore();
        DUE.is("a state more", x.count(16), states == 4 ? 4 : states + 1);
        x.undo();
        DUE.is("undone", Due.looks(x), before);
        MovedStalls y = new MovedStalls();
        y.save();
        y.restore();
        DUE.is("also if nothing is different", y.count(16), 1);
        DUE.is("undo()", y.undo(), 0);
        DUE.is("the snapshot stays behind undo()", y.restore(), 0);
    }

    private static void promise27RestoreKeepsPadAndHistory() {
        MovedStalls x = new MovedStalls();
        Due.type(x, "01");
        x.save();
        x.load(4);
        x.load(5);
        Due.type(x, "0123");
        x.restore();
        DUE.is("LOAD", x.count(13), 3);
        DUE.is("the pad", x.count(15), 4);
        DUE.is("the history", x.count(16), 3);
        x.undo();
        DUE.is("LOAD before", x.count(13), 5);
        x.undo();
        DUE.is("LOAD before that", x.count(13), 4);
    }
}
