public final class Example {
    public static void main(String[] args) {
        MovedStalls roads = new MovedStalls();

        // Texts are put on the pad a character at a time, and read from there.
        type(roads, "01;02*8");
        System.out.println(roads.fault(0));             // -4: NOT_FOUND: read as tours, the pad has no fault
        System.out.println(roads.tours());              // 2: a carrier has come for each tour
        System.out.println(roads.where(1, 3));          // 2: on the day 3 the carrier 1 is in the town 2
        type(roads, "1>2,0>0");
        System.out.println(roads.fault(1));             // 6: read as letters, the second bundle goes nowhere

        // A bundle lies in the town 1, and goes to the town 2.
        System.out.println(roads.post(1, 2));           // 3: its promise, the day on which it would arrive
        System.out.println(roads.arrival(0, 1));        // 3: the same, told day by day
        System.out.println(roads.meeting(0, 1, true));  // 2: the day on which both carriers are at the stall
        System.out.println(roads.ifPosted(1, 2, 1));    // 5: the arrival, if it were posted tomorrow
        System.out.println(roads.bestDay(0, 2));        // 1: from 0 to 2 it takes the fewest days from tomorrow on

        // What is changed can be undone, up to 4 changes.
        System.out.println(roads.stall(2, 1));          // 0: the town in which the stall stood on the weekday 2
        System.out.println(roads.arrival(0, 0));        // 5: the bundle changes hands two days later now
        System.out.println(roads.bestTown(2));          // 0: the best town for the stall on the weekday 2
        System.out.println(roads.undo());               // 2: the states that the history has then

        // Days pass: what they would bring, and what they bring.
        System.out.println(roads.save());               // 0: a snapshot of the day 0
        System.out.println(roads.ifPassed(2, 1));       // 2: changes of hands that there would be in 2 days
        System.out.println(roads.pass(2));              // 0: 2 days have passed, nothing has arrived in them
        System.out.println(roads.bundle(0, 2));         // 1: the carrier who has the bundle now
        System.out.println(roads.bundle(0, 6));         // 1: its seal is broken
        System.out.println(roads.ill(1, 2));            // 5: the day on which the carrier 1 is about again
        System.out.println(roads.bundle(0, 5));         // 1002: a delay of 2 days, and 1000
        System.out.println(roads.lateness());           // 2.0: the delays on the mean
        System.out.println(roads.restore());            // 0: it is the day 0 again
        System.out.println(roads.count(16));            // 4: the states that the history has now

        // Errors are told by numbers below 0, and change nothing.
        System.out.println(roads.stall(7, 0));          // -1: INVALID_ARGUMENT: there is no weekday 7
        System.out.println(roads.letters());            // -2: NOT_POSSIBLE: the pad has a fault still
        type(roads, "0;1;2");
        System.out.println(roads.tours());              // -3: LIMIT_REACHED: there would be 5 carriers
        System.out.println(roads.bundle(0, 3));         // -4: NOT_FOUND: the bundle has not arrived
    }

    private static void type(MovedStalls roads, String text) {
        roads.clear();
        for (char sign : text.toCharArray()) {
            roads.append(sign);
        }
    }
}
