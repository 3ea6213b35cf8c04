/** Promises 9 to 13: append, clear, fault, tours, letters. */
public final class TextsTest {
    private static final Due DUE = new Due("TextsTest");

    public static void main(String[] args) {
        promise9Append();
        promise10Clear();
        promise11FaultOfTours();
        promise11FaultOfLetters();
        promise11FaultOfLongPads();
        promise11FaultWays();
        promise12Tours();
        promise12ToursErrors();
        promise12TourLengths();
        promise13Letters();
        promise13LettersErrors();
        DUE.end();
    }

    private static void promise9Append() {
        MovedStalls x = new MovedStalls();
        int[] wrong = {32, 127, 0, -1, 31, 128, 255, 304, Integer.MAX_VALUE, Integer.MIN_VALUE};
        for (int code : wrong) {
            DUE.is("append(" + code + ")", x.append(code), -1);
        }
        DUE.is("append(33)", x.append(33), 1);
        DUE.is("append(126)", x.append(126), 2);
        for (int i = 3; i <= 60; i++) {
            DUE.is("append(48)", x.append(48), i);
        }
        DUE.is("the 61st", x.append(48), -3);
        DUE.is("the 61st, wrong", x.append(32), -1);
        DUE.is("count(15)", x.count(15), 60);
        DUE.is("is no change", x.count(16), 0);
    }

    private static void promise10Clear() {
        MovedStalls x = new MovedStalls();
        DUE.is("empty: clear()", x.clear(), 0);
        Due.type(x, "abc");
        DUE.is("clear()", x.clear(), 3);
        DUE.is("count(15)", x.count(15), 0);
        DUE.is("clear() again", x.clear(), 0);
        DUE.is("append(48)", x.append(48), 1);
        DUE.is("only what came later", x.fault(0), -4);
        DUE.is("is no change", x.count(16), 0);
    }

    private static void fault(int way, String text, int want) {
        MovedStalls x = new MovedStalls();
        Due.type(x, text);
        DUE.is("fault(" + way + ") of " + text, x.fault(way), want);
        DUE.is("the pad stays", x.count(15), text.length());
    }

    private static void promise11FaultOfTours() {
        String[] right = {"0", "5", "01", "0123450", "0*0", "0*9", "0123450*5", "0;1", "0*1;2*3;4", "0123450;0123450",
            "0;1;2;3;4;5;0;1"};
        for (String text : right) {
            fault(0, text, -4);
        }
        String[] open = {"", "0;", "0*", "0*1;", "0123450;", "0123450*", "0;1*"};
        for (String text : open) {
            fault(0, text, text.length());
        }
        fault(0, "6", 0);
        fault(0, "/", 0);
        fault(0, ";", 0);
        fault(0, "*", 0);
        fault(0, "9", 0);
        fault(0, "x0", 0);
        fault(0, "06", 1);
        fault(0, "0/", 1);
        fault(0, "0,1", 1);
        fault(0, "0>1", 1);
        fault(0, "0:", 1);
        fault(0, "0;;", 2);
        fault(0, "0;*", 2);
        fault(0, "0;6", 2);
        fault(0, "0**", 2);
        fault(0, "0*;", 2);
        fault(0, "0*/", 2);
        fault(0, "0*:", 2);
        fault(0, "0*a", 2);
        fault(0, "0*91", 3);
        fault(0, "0*9*", 3);
        fault(0, "0*9*1", 3);
        fault(0, "01234501", 7);
        fault(0, "01234506", 7);
        fault(0, "0123450*01", 9);
        fault(0, "0;01234501", 9);
        fault(0, "6;7;8", 0);
    }

    private static void promise11FaultOfLetters() {
        String[] right = {"0>1", "5>0", "4>5", "0>1,1>0", "0>1,0>1,0>1", "0>1,0>1,0>1,0>1,0>1,0>1,0>1,0>1,0>1,0>1"};
        for (String text : right) {
            fault(1, text, -4);
        }
        String[] open = {"", "0", "0>", "0>1,", "0>1,2", "0>1,2>"};
        for (String text : open) {
            fault(1, text, text.length());
        }
        fault(1, "6", 0);
        fault(1, "/", 0);
        fault(1, ">", 0);
        fault(1, ",", 0);
        fault(1, "01", 1);
        fault(1, "0-1", 1);
        fault(1, "0,", 1);
        fault(1, "0>0", 2);
        fault(1, "5>5", 2);
        fault(1, "0>6", 2);
        fault(1, "0>/", 2);
        fault(1, "0>>", 2);
        fault(1, "0>12", 3);
        fault(1, "0>1;", 3);
        fault(1, "0>1>2", 3);
        fault(1, "0>1,,", 4);
        fault(1, "0>1,6", 4);
        fault(1, "0>1,1>1", 6);
        fault(1, "0>1,2>2,", 6);
        fault(1, "6>7,8", 0);
    }

    private static void promise11FaultOfLongPads() {
        String fifteen = "0>1,".repeat(15);
        fault(1, fifteen, 60);
        fault(1, fifteen.substring(0, 59), -4);
        fault(1, fifteen.substring(0, 59) + ";", 59);
        fault(0, "0;".repeat(30), 60);
        fault(0, "0;".repeat(29) + "12", -4);
        fault(0, "0;".repeat(29) + "1*", 60);
        fault(0, "0;".repeat(29) + "16", 59);
    }

    private static void promise11FaultWays() {
        MovedStalls x = new MovedStalls();
        DUE.is("fault(-1)", x.fault(-1), -1);
        DUE.is("fault(2)", x.fault(2), -1);
        DUE.is("fault(0)", x.fault(0), 0);
        DUE.is("fault(1)", x.fault(1), 0);
        DUE.is("is no change", x.count(16), 0);
    }

    private static void promise12Tours() {
        MovedStalls x = new MovedStalls();
        Due.type(x, "012;34*7");
        DUE.is("tours()", x.tours(), 2);
        DUE.is("the pad is empty", x.count(15), 0);
        DUE.is("is one change", x.count(16), 1);
        DUE.is("count(2)", x.count(2), 2);
        DUE.is("carrier(0, 0)", x.carrier(0, 0), 3);
        DUE.is("carrier(0, 1)", x.carrier(0, 1), 0);
        DUE.is("carrier(1, 0)", x.carrier(1, 0), 2);
        DUE.is("carrier(1, 1)", x.carrier(1, 1), 7);
        DUE.is("where(0, 0)", x.where(0, 0), 0);
        DUE.is("where(0, 1)", x.where(0, 1), 1);
        DUE.is("where(0, 2)", x.where(0, 2), 2);
        DUE.is("where(1, 0)", x.where(1, 0), 3);
        DUE.is("where(1, 1)", x.where(1, 1), 4);
        x.pass(5);
        x.rough(1, 2);
        x.ill(1, 4);
        Due.type(x, "5*9;0123450");
        DUE.is("tours(), two more", x.tours(), 4);
        DUE.is("the first ones stay", x.carrier(1, 1), 2);
        DUE.is("carrier(2, 0)", x.carrier(2, 0), 1);
        DUE.is("carrier(2, 1)", x.carrier(2, 1), 9);
        DUE.is("carrier(2, 4)", x.carrier(2, 4), 0);
        DUE.is("carrier(3, 0)", x.carrier(3, 0), 7);
        DUE.is("carrier(3, 1)", x.carrier(3, 1), 0);
        DUE.is("by the day, not by the coming", x.where(3, 5), 5);
        x.undo();
        DUE.is("undone", x.count(2), 2);
        Due.type(x, "1");
        x.tours();
        DUE.is("a new carrier is not what an undone one was: tour", x.where(2, 7), 1);
        DUE.is("a new carrier is not what an undone one was: roughness", x.carrier(2, 1), 0);
    }

    private static void promise12ToursErrors() {
        MovedStalls x = new MovedStalls();
        DUE.is("empty: tours()", x.tours(), -2);
        Due.type(x, "0;");
        DUE.is("not complete: tours()", x.tours(), -2);
        DUE.is("the pad stays", x.count(15), 2);
        x.append('1');
        DUE.is("complete: tours()", x.tours(), 2);
        Due.type(x, "0>1");
        DUE.is("letters are no tours", x.tours(), -2);
        Due.type(x, "0;1;2");
        DUE.is("five: tours()", x.tours(), -3);
        DUE.is("the pad stays", x.count(15), 5);
        DUE.is("none came", x.count(2), 2);
        Due.type(x, "0;1;2;");
        DUE.is("a fault, and five: tours()", x.tours(), -2);
        DUE.is("errors are no changes", x.count(16), 1);
        Due.type(x, "0;1");
        DUE.is("four: tours()", x.tours(), 4);
        Due.type(x, "0");
        DUE.is("one more: tours()", x.tours(), -3);
        Due.type(new MovedStalls(), "0;1;2;3;4");
        DUE.is("ask for 2 of 4", x.count(2), 4);
    }

    private static void promise12TourLengths() {
        String digits = "0123451";
        for (int length = 1; length <= 7; length++) {
            MovedStalls x = Due.withTours(digits.substring(0, length));
            DUE.is("length", x.carrier(0, 0), length);
            for (int day = 0; day < 16; day++) {
                DUE.is("length " + length + ": where(0, " + day + ")", x.where(0, day), digits.charAt(day % length) - '0');
            }
        }
    }

    private static void promise13Letters() {
        MovedStalls x = Due.withTours("01;102");
        Due.type(x, "0>2,1>2,5>4");
        DUE.is("letters()", x.letters(), 3);
        DUE.is("the pad is empty", x.count(15), 0);
        DUE.is("is one change", x.count(16), 2);
        DUE.is("count(9)", x.count(9), 3);
        DUE.is("0 lies", x.bundle(0, 1), 0);
        DUE.is("0 goes to", x.bundle(0, 0), 2);
        DUE.is("0's promise", x.bundle(0, 4), 2);
        DUE.is("1's promise", x.bundle(1, 4), 5);
        DUE.is("2 lies", x.bundle(2, 1), 5);
        DUE.is("2 goes to", x.bundle(2, 0), 4);
        DUE.is("2's promise", x.bundle(2, 4), -4);
        x.pass(3);
        Due.type(x, "0>2");
        DUE.is("day 3: letters()", x.letters(), 4);
        DUE.is("day 3: day", x.bundle(3, 8), 3);
        DUE.is("day 3: promise", x.bundle(3, 4), 5);
        DUE.is("is one change", x.count(16), 4);
        x.undo();
        DUE.is("undone", x.count(4), 3);
        DUE.is("the pad stays empty", x.count(15), 0);
    }

    private static void promise13LettersErrors() {
        MovedStalls x = Due.withTours("01;102");
        DUE.is("empty: letters()", x.letters(), -2);
        Due.type(x, "0>1,");
        DUE.is("not complete: letters()", x.letters(), -2);
        DUE.is("the pad stays", x.count(15), 4);
        Due.type(x, "01;2");
        DUE.is("tours are no letters", x.letters(), -2);
        Due.type(x, "0>1,".repeat(9).substring(0, 35));
        DUE.is("nine: letters()", x.letters(), -3);
        DUE.is("the pad stays", x.count(15), 35);
        DUE.is("none is posted", x.count(9), 0);
        DUE.is("errors are no changes", x.count(16), 1);
        Due.type(x, "0>1,".repeat(9));
        DUE.is("a fault, and nine: letters()", x.letters(), -2);
        Due.type(x, "0>1,".repeat(8).substring(0, 31));
        DUE.is("eight: letters()", x.letters(), 8);
        Due.type(x, "0>1");
        DUE.is("one more: letters()", x.letters(), -3);
        x.forget(3);
        DUE.is("room again: letters()", x.letters(), 8);
    }
}
