/** "Texts" and the promises 9 to 13: a test for each sentence that names an edge. */
public final class TextsEdgesTest {
    private static final Due DUE = new Due("TextsEdgesTest");
    private static final int LENGTH = 60;

    public static void main(String[] args) {
        initiallyEmpty();
        atMost60Characters();
        roomBehindAClear();
        clearTellsTheLengthThatItHad();
        eachCharacterThatCanFollowInTours();
        eachCharacterThatCanFollowInLetters();
        allShortPads();
        oneOrMoreTours();
        aTourOf1To7Digits();
        digits0To5();
        theRoughnessOr0WithoutIt();
        oneOrMoreBundles();
        notTheSameTown();
        theFirstCharacterThatIsWrong();
        thePadIsNotComplete();
        aPadOfAnyLength();
        theFaultLeavesThePad();
        toursUpTo4Carriers();
        toursUpTo4CarriersOfAllLengths();
        fiveToursOfAllLengths();
        theLongestPadOf4Tours();
        lettersUpTo8Bundles();
        toursAndLettersEmptyThePad();
        lettersOneAfterTheOther();
        DUE.end();
    }

    private static void fault(int way, String text, int want) {
        MovedStalls x = new MovedStalls();
        Due.type(x, text);
        DUE.is("fault(" + way + ") of \"" + text + "\"", x.fault(way), want);
    }

    /** "There is a pad of at most 60 characters, initially empty." */
    private static void initiallyEmpty() {
        MovedStalls x = new MovedStalls();
        DUE.is("initially: count(15)", x.count(15), 0);
        DUE.is("initially: fault(0)", x.fault(0), 0);
        DUE.is("initially: fault(1)", x.fault(1), 0);
        DUE.is("initially: tours()", x.tours(), -2);
        DUE.is("initially: letters()", x.letters(), -2);
        DUE.is("initially: clear()", x.clear(), 0);
        DUE.is("initially: append(33)", x.append(33), 1);
    }

    private static void atMost60Characters() {
        MovedStalls x = new MovedStalls();
        for (int length = 1; length <= LENGTH; length++) {
            DUE.is("append", x.append(33 + length), length);
        }
        DUE.is("the 61st", x.append(48), -3);
        DUE.is("the 61st again", x.append(126), -3);
        DUE.is("the 61st, below the range", x.append(32), -1);
        DUE.is("the 61st, above the range", x.append(127), -1);
        DUE.is("60 characters", x.count(15), LENGTH);
        DUE.is("60 characters: clear()", x.clear(), LENGTH);
        DUE.refused("the 61st", () -> typed("0;".repeat(29) + "12"), y -> y.append('3'), -3);
    }

    private static MovedStalls typed(String text) {
        MovedStalls x = new MovedStalls();
        Due.type(x, text);
        return x;
    }

    private static void roomBehindAClear() {
        MovedStalls x = typed("0".repeat(LENGTH));
        x.clear();
        for (int length = 1; length <= LENGTH; length++) {
            DUE.is("append behind clear()", x.append(length % 2 == 1 ? '1' : ';'), length);
        }
        DUE.is("the 61st behind clear()", x.append('1'), -3);
        DUE.is("what was there is gone", x.fault(0), LENGTH);
        x.clear();
        Due.type(x, "5");
        DUE.is("one character", x.fault(0), -4);
    }

    private static void clearTellsTheLengthThatItHad() {
        for (int length = 0; length <= LENGTH; length++) {
            MovedStalls x = typed("~".repeat(length));
            DUE.is("clear()", x.clear(), length);
            DUE.is("clear() again", x.clear(), 0);
        }
    }

    /** Of all characters only those can stand behind the beginning: the others are at the fault. */
    private static void follow(int way, String beginning, String those) {
        for (char code = 33; code <= 126; code++) {
            MovedStalls x = typed(beginning);
            x.append(code);
            boolean wrong = x.fault(way) == beginning.length();
            boolean can = those.indexOf(code) >= 0;
            DUE.is("way " + way + ": " + code + " behind \"" + beginning + "\"", wrong ? 1 : 0, can ? 0 : 1);
        }
    }

    private static void eachCharacterThatCanFollowInTours() {
        follow(0, "", "012345");
        follow(0, "0", "012345;*");
        follow(0, "01", "012345;*");
        follow(0, "012345", "012345;*");
        follow(0, "0123450", ";*");
        follow(0, "0*", "0123456789");
        follow(0, "0123450*", "0123456789");
        follow(0, "0*0", ";");
        follow(0, "5*9", ";");
        follow(0, "0;", "012345");
        follow(0, "0*1;", "012345");
        follow(0, "0;1", "012345;*");
        follow(0, "0;0123450", ";*");
        follow(0, "0123450;012345", "012345;*");
        follow(0, "0;1;2;3", "012345;*");
        follow(0, "0;1;2;3;4;", "012345");
    }

    private static void eachCharacterThatCanFollowInLetters() {
        follow(1, "", "012345");
        follow(1, "3", ">");
        follow(1, "0>", "12345");
        follow(1, "1>", "02345");
        follow(1, "2>", "01345");
        follow(1, "3>", "01245");
        follow(1, "4>", "01235");
        follow(1, "5>", "01234");
        follow(1, "0>1", ",");
        follow(1, "0>1,", "012345");
        follow(1, "0>1,1", ">");
        follow(1, "0>1,2>", "01345");
        follow(1, "0>1,2>0", ",");
        follow(1, "0>1,".repeat(7) + "0>1", ",");
        follow(1, "0>1,".repeat(8), "012345");
    }

    /** All pads of up to 4 characters, and all of up to 4 behind some beginnings, against Model's patterns. */
    private static void allShortPads() {
        String[] beginnings = {"", "012345", "0;01234", "0>1,", "0>1,2>"};
        for (String beginning : beginnings) {
            morePads(beginning, 4);
        }
    }

    private static void morePads(String text, int more) {
        MovedStalls x = typed(text);
        Model m = new Model();
        for (int i = 0; i < text.length(); i++) {
            m.append(text.charAt(i));
        }
        for (int way = 0; way <= 1; way++) {
            DUE.is("fault(" + way + ") of \"" + text + "\"", x.fault(way), m.fault(way));
        }
        if (more > 0) {
            for (char sign : "0569*;>,".toCharArray()) {
                morePads(text + sign, more - 1);
            }
        }
    }

    /** "Tours: one or more tours with ";" between two" */
    private static void oneOrMoreTours() {
        fault(0, "0", -4);
        for (int tours = 2; tours <= 30; tours++) {
            fault(0, "0;".repeat(tours - 1) + "1", -4);
        }
        fault(0, ";", 0);
        fault(0, ";0", 0);
        fault(0, "0;;1", 2);
        fault(0, "0;", 2);
        fault(0, "0,1", 1);
    }

    /** "1 to 7 digits 0 to 5 (towns)" */
    private static void aTourOf1To7Digits() {
        String digits = "0123454321";
        for (int length = 1; length <= 9; length++) {
            fault(0, digits.substring(0, length), length <= 7 ? -4 : 7);
            fault(0, "1*2;" + digits.substring(0, length), length <= 7 ? -4 : 11);
            fault(0, digits.substring(0, length) + ";1", length <= 7 ? -4 : 7);
            MovedStalls x = Due.withTours(digits.substring(0, length));
            DUE.is("a tour of " + length, x.carrier(0, 0), length <= 7 ? length : -1);
        }
        fault(0, "0123450;0123450;0123450;0123450", -4);
        fault(0, "0123450;0123450;0123450;01234501", 31);
    }

    private static void digits0To5() {
        for (char digit = '/'; digit <= ':'; digit++) {
            int want = digit >= '0' && digit <= '5' ? -4 : 0;
            fault(0, String.valueOf(digit), want);
            fault(0, "1" + digit, want == 0 ? 1 : -4);
            fault(1, digit + (digit == '1' ? ">2" : ">1"), want);
            fault(1, (digit == '1' ? "2>" : "1>") + digit, want == 0 ? 2 : -4);
        }
    }

    /** "and perhaps "*" and a digit 0 to 9 (the roughness; 0 without it)" */
    private static void theRoughnessOr0WithoutIt() {
        for (int roughness = 0; roughness <= 9; roughness++) {
            MovedStalls x = Due.withTours("0*" + roughness + ";0123450*" + roughness + ";5");
            DUE.is("a tour of 1", x.carrier(0, 1), roughness);
            DUE.is("a tour of 1: its length", x.carrier(0, 0), 1);
            DUE.is("a tour of 7", x.carrier(1, 1), roughness);
            DUE.is("a tour of 7: its length", x.carrier(1, 0), 7);
            DUE.is("without it", x.carrier(2, 1), 0);
        }
        fault(0, "0*", 2);
        fault(0, "0*/", 2);
        fault(0, "0*:", 2);
        fault(0, "0*10", 3);
        fault(0, "0**1", 2);
        fault(0, "*1", 0);
    }

    /** "Letters: one or more bundles with "," between two" */
    private static void oneOrMoreBundles() {
        fault(1, "0>1", -4);
        for (int bundles = 2; bundles <= 15; bundles++) {
            fault(1, "0>1,".repeat(bundles - 1) + "5>0", -4);
        }
        fault(1, ",", 0);
        fault(1, ",0>1", 0);
        fault(1, "0>1,,0>1", 4);
        fault(1, "0>1,", 4);
        fault(1, "0>1;0>1", 3);
    }

    /** "a digit 0 to 5, ">", and another digit 0 to 5, not the same" */
    private static void notTheSameTown() {
        for (int from = 0; from <= 5; from++) {
            for (int to = 0; to <= 5; to++) {
                fault(1, from + ">" + to, from == to ? 2 : -4);
                fault(1, to + ">" + (to + 1) % 6 + "," + from + ">" + to, from == to ? 6 : -4);
            }
        }
    }

    /** "the position, from 0, of the first character that is wrong" */
    private static void theFirstCharacterThatIsWrong() {
        for (int place = 0; place < 59; place++) {
            String tours = "0;".repeat(29) + "0";
            fault(0, tours.substring(0, place) + "x" + tours.substring(place + 1), place);
            fault(0, tours.substring(0, place) + "x".repeat(59 - place), place);
            String letters = "0>1,".repeat(14) + "0>1";
            fault(1, letters.substring(0, place) + "x" + letters.substring(place + 1), place);
            fault(1, letters.substring(0, place) + "x".repeat(59 - place), place);
        }
    }

    /** "if there is none, and the pad is not complete (also if it is empty), the length of the pad" */
    private static void thePadIsNotComplete() {
        String[] tours = {"", "0;", "0*", "01*", "0*1;", "0;1;", "0;1*", "0123450*", "0123450;"};
        for (String text : tours) {
            fault(0, text, text.length());
        }
        String[] letters = {"", "0", "0>", "0>1,", "0>1,1", "0>1,1>", "0>1,1>0,"};
        for (String text : letters) {
            fault(1, text, text.length());
        }
    }

    /** "no pad of that kind, of any length, begins with" it: what goes on behind 60 characters is not wrong */
    private static void aPadOfAnyLength() {
        fault(0, "0123450;".repeat(7) + "012;", LENGTH);
        fault(0, "0123450;".repeat(7) + "012*", LENGTH);
        fault(0, "0123450;".repeat(7) + "0123", -4);
        fault(0, "0123450;".repeat(7) + "012x", LENGTH - 1);
        fault(0, "0;".repeat(30), LENGTH);
        fault(1, "0>1,".repeat(15), LENGTH);
        fault(1, "0>1,".repeat(14) + "0>1", -4);
        fault(1, "0>1,".repeat(14) + "0>1x", LENGTH - 1);
        fault(1, "0>1,".repeat(14) + "0>0", LENGTH - 2);
    }

    private static void theFaultLeavesThePad() {
        MovedStalls x = typed("0>1");
        DUE.is("as tours", x.fault(0), 1);
        DUE.is("as letters", x.fault(1), -4);
        DUE.is("as tours again", x.fault(0), 1);
        DUE.is("its length", x.count(15), 3);
        DUE.is("is no change", x.count(16), 0);
        DUE.is("letters()", x.letters(), 1);
    }

    /** "LIMIT_REACHED if there would be more than 4" */
    private static void toursUpTo4Carriers() {
        String[] pads = {"", "0", "0;1", "0;1;2", "0;1;2;3", "0;1;2;3;4"};
        for (int first = 0; first <= 4; first++) {
            for (int more = 1; more <= 5; more++) {
                String before = pads[first];
                MovedStalls x = Due.withTours(before);
                Due.type(x, pads[more]);
                int want = first + more <= 4 ? first + more : -3;
                DUE.is(first + " carriers, and " + more, x.tours(), want);
                DUE.is(first + " carriers, and " + more + ": then", x.count(2), want == -3 ? first : want);
                DUE.is(first + " carriers, and " + more + ": the pad", x.count(15), want == -3 ? 2 * more - 1 : 0);
            }
        }
        DUE.refused("30 tours", () -> typed("0;".repeat(29) + "1"), MovedStalls::tours, -3);
        DUE.refused("one tour more", () -> full("5"), MovedStalls::tours, -3);
    }

    private static void toursUpTo4CarriersOfAllLengths() {
        String[] tours = {"0", "01", "012", "0123", "01234", "012345", "0123450", "0*1", "0123450*1"};
        for (String one : tours) {
            for (int place = 0; place < 5; place++) {
                String four = "5;".repeat(Math.min(place, 3)) + one + ";5".repeat(3 - Math.min(place, 3));
                String five = "5;".repeat(place) + one + ";5".repeat(4 - place);
                DUE.is("four: " + four, typed(four).tours(), 4);
                DUE.is("five: " + five, typed(five).tours(), -3);
            }
        }
    }

    /** Four tours of 1 to 9 characters in each order, and one more: each ";" stands between two carriers. */
    private static void fiveToursOfAllLengths() {
        String[] tours = {"0", "01", "0*1", "012*1", "01234", "012345", "0123450", "012345*1", "0123450*1"};
        for (int order = 0; order < 9 * 9 * 9 * 9; order++) {
            String five = tours[order % 9] + ";" + tours[order / 9 % 9] + ";" + tours[order / 81 % 9] + ";"
                + tours[order / 729] + ";5";
            DUE.is("five: " + five, typed(five).tours(), -3);
        }
    }

    private static void theLongestPadOf4Tours() {
        String[] towns = {"0123450", "5432105", "2030405", "1454321"};
        MovedStalls x = typed(towns[0] + "*6;" + towns[1] + "*7;" + towns[2] + "*8;" + towns[3] + "*9");
        DUE.is("39 characters", x.count(15), 39);
        DUE.is("four tours of 7", x.tours(), 4);
        for (int c = 0; c <= 3; c++) {
            DUE.is("the length of tour " + c, x.carrier(c, 0), 7);
            DUE.is("the roughness of tour " + c, x.carrier(c, 1), 6 + c);
            for (int day = 0; day <= 6; day++) {
                DUE.is("tour " + c + ", day " + day, x.where(c, day), towns[c].charAt(day) - '0');
            }
        }
    }

    /** 4 carriers, 8 bundles, and this on the pad. */
    private static MovedStalls full(String text) {
        MovedStalls x = Due.with("0;1;2;3", "0>1,".repeat(7) + "0>1");
        Due.type(x, text);
        return x;
    }

    /** "LIMIT_REACHED if there would be more than 8" */
    private static void lettersUpTo8Bundles() {
        for (int first = 0; first <= 8; first++) {
            for (int more = 1; more <= 9; more++) {
                MovedStalls x = Due.withTours("01");
                for (int b = 0; b < first; b++) {
                    x.post(0, 1);
                }
                Due.type(x, "2>3,".repeat(more - 1) + "4>5");
                int want = first + more <= 8 ? first + more : -3;
                DUE.is(first + " bundles, and " + more, x.letters(), want);
                DUE.is(first + " bundles, and " + more + ": then", x.count(4), want == -3 ? first : want);
                DUE.is(first + " bundles, and " + more + ": the pad", x.count(15), want == -3 ? 4 * more - 1 : 0);
            }
        }
        DUE.refused("15 bundles", () -> typed("0>1,".repeat(14) + "1>0"), MovedStalls::letters, -3);
        DUE.refused("one bundle more", () -> full("4>5"), MovedStalls::letters, -3);
    }

    private static void toursAndLettersEmptyThePad() {
        MovedStalls x = typed("01");
        DUE.is("tours()", x.tours(), 1);
        DUE.is("behind tours()", x.count(15), 0);
        DUE.is("tours() of nothing", x.tours(), -2);
        DUE.is("append behind tours()", x.append('0'), 1);
        Due.type(x, "0>1");
        DUE.is("letters()", x.letters(), 1);
        DUE.is("behind letters()", x.count(15), 0);
        DUE.is("letters() of nothing", x.letters(), -2);
        DUE.is("append behind letters()", x.append('0'), 1);
    }

    /** "Posts the bundles of the pad, one after the other": each as post() would. */
    private static void lettersOneAfterTheOther() {
        MovedStalls x = Due.withTours("01;102*3");
        x.pass(4);
        x.post(3, 4);
        Due.type(x, "0>2,5>0,1>2,1>0");
        DUE.is("letters()", x.letters(), 5);
        DUE.is("is one change", x.count(16), 4);
        MovedStalls y = Due.withTours("01;102*3");
        y.pass(4);
        y.post(3, 4);
        y.post(0, 2);
        DUE.is("without a promise", y.post(5, 0), -4);
        y.post(1, 2);
        y.post(1, 0);
        DUE.is("as post() would", Due.looks(x), Due.looks(y));
        MovedStalls z = new MovedStalls();
        Due.type(z, "0>1");
        DUE.is("none has a promise: no error", z.letters(), 1);
        DUE.is("none has a promise: posted", z.count(9), 1);
    }
}
