/** Promises 1 to 6 at the ends of their ranges and just beyond them, in empty queues and in full ones. */
public final class PeopleBoundsTest {
    private static final int MIN = Integer.MIN_VALUE;
    private static final int MAX = Integer.MAX_VALUE;
    private static final int[] NO_PLACES = {-1, -2, 16, 17, 200, MIN, MAX};

    public static void main(String[] args) {
        newObjectIsEmpty();
        newObjectSharesNothing();
        comeAtTheEndsOfItsRanges();
        comeBeyondItsRanges();
        comeToTheSixteenthPlace();
        comeAgainWhenThereIsRoom();
        comeAsTheTwoHundredth();
        numbersGoOn();
        leaveAtEachPlace();
        leaveWhereNobodyIs();
        leaveTellsTheWetness();
        letAheadAtEachPlace();
        letAheadWithNobodyBehind();
        swapAtEachPlace();
        swapWithNobodyBehind();
        swapOfEachPairOfWidths();
        swapByWetness();
        swapIsRefusedForTheFirstReason();
        swapThatIsRefusedIsNotCounted();
        setAtTheEndsOfItsRanges();
        setBeyondItsRanges();
        setWhatIsSoAlready();
        Check.end();
    }

    // ---- 1 a new object

    private static void newObjectIsEmpty() {
        UmbrellaQueue x = new UmbrellaQueue();
        for (int place : new int[] {0, 1, 15, -1, 16, MIN, MAX}) {
            Check.due("1: person(" + place + ", 0)", x.person(place, 0), -1);
            Check.due("1: reason(" + place + ")", x.reason(place), -1);
            Check.due("1: ifGust(" + place + ", 1, 0, 0)", x.ifGust(place, 1, 0, 0), -1);
            Check.due("1: bears(" + place + ", 1)", x.bears(place, 1), -1);
            Check.due("1: leave(" + place + ")", x.leave(place), -1);
            Check.due("1: letAhead(" + place + ")", x.letAhead(place), -1);
            Check.due("1: swap(" + place + ")", x.swap(place), -1);
        }
        Check.due("1: gust(1, 0)", x.gust(1, 0), -5);
        Check.due("1: serve()", x.serve(), -5);
        Check.due("1: bestSwap(1, 0)", x.bestSwap(1, 0), -5);
        Check.due("1: payer(0)", x.payer(0), -5);
        Check.due("1: payer(1)", x.payer(1), -5);
        Check.due("1: placeOf(0)", x.placeOf(0), -5);
        Check.due("1: perform()", x.perform(), -100);
        Check.due("1: stopped(0)", x.stopped(0), -5);
        Check.due("1: stopped(1)", x.stopped(1), -5);
        Check.due("1: undo()", x.undo(), -5);
        Check.due("1: restore()", x.restore(), -5);
        Check.due("1: clearText()", x.clearText(), 0);
        dueNew(x);
        Check.due("1: keep()", x.keep(), 0);
        Check.due("1: the first one's place", x.come(10, 0, 0), 0);
        Check.due("1: the first one's number", x.person(0, 0), 0);
    }

    private static void newObjectSharesNothing() {
        UmbrellaQueue other = Check.queue(1, 2, 0);
        for (int which = 0; which < 3; which++) {
            other.set(which, 1);
        }
        other.gust(50, 0);
        other.pass(3);
        other.swap(0);
        other.serve();
        other.keep();
        Check.perform(other, "x15");
        UmbrellaQueue x = new UmbrellaQueue();
        dueNew(x);
        Check.due("1: restore()", x.restore(), -5);
        Check.due("1: stopped(0)", x.stopped(0), -5);
        String before = Check.told(other);
        x.come(10, 0, 0);
        x.set(2, 77);
        x.gust(99, 0);
        Check.holds("1: the other one stays", before.equals(Check.told(other)));
    }

    private static void dueNew(UmbrellaQueue x) {
        int[] due = {0, 0, 0, 0, 0, 0, 0, 0, 0, 0, 0, -5, 0, 3, 2, 5, 0, 0};
        for (int what = 0; what <= 17; what++) {
            Check.due("1: count(" + what + ")", x.count(what), due[what]);
        }
    }

    // ---- 2 come

    private static void comeAtTheEndsOfItsRanges() {
        int[][] good = {{10, 0, 0}, {11, 0, 0}, {998, 0, 0}, {999, 0, 0}, {10, 1, 0}, {10, 9998, 0}, {10, 9999, 0},
            {10, 0, 1}, {10, 0, 2}, {10, 0, 3}, {10, 0, 4}, {10, 0, 5}, {999, 9999, 5}};
        for (int[] one : good) {
            UmbrellaQueue x = new UmbrellaQueue();
            String call = "2: come(" + one[0] + ", " + one[1] + ", " + one[2] + ")";
            Check.due(call, x.come(one[0], one[1], one[2]), 0);
            int[] due = {0, 0, one[0], one[1], one[2]};
            for (int what = 0; what < 5; what++) {
                Check.due(call + ": person(0, " + what + ")", x.person(0, what), due[what]);
            }
            Check.due(call + ": swaps", x.person(0, 8), 0);
            Check.due(call + ": it is an act", x.count(16), 1);
        }
    }

    private static void comeBeyondItsRanges() {
        int[][] bad = {{9, 0, 0}, {1000, 0, 0}, {0, 0, 0}, {-10, 0, 0}, {MIN, 0, 0}, {MAX, 0, 0}, {10, -1, 0},
            {10, 10000, 0}, {10, MIN, 0}, {10, MAX, 0}, {10, 0, -1}, {10, 0, 6}, {10, 0, MIN}, {10, 0, MAX},
            {9, -1, -1}, {1000, 10000, 6}};
        UmbrellaQueue empty = new UmbrellaQueue();
        UmbrellaQueue full = Check.fullQueue();
        UmbrellaQueue allCame = Check.queueWhereAllCame();
        for (int[] one : bad) {
            String call = "2: come(" + one[0] + ", " + one[1] + ", " + one[2] + ")";
            Check.due(call, empty.come(one[0], one[1], one[2]), -2);
            Check.due(call + " is ahead of 16 people", full.come(one[0], one[1], one[2]), -2);
            Check.due(call + " is ahead of 200 who came", allCame.come(one[0], one[1], one[2]), -2);
        }
        Check.due("2: nobody came", empty.count(0) + empty.count(1) + empty.count(16), 0);
        Check.due("2: nobody came to the full one", full.count(0) + full.count(1), 32);
        Check.due("2: nobody came any more", allCame.count(1), 200);
    }

    private static void comeToTheSixteenthPlace() {
        UmbrellaQueue x = new UmbrellaQueue();
        for (int place = 0; place <= 15; place++) {
            Check.due("2: come, people " + place, x.come(10, 0, 0), place);
            Check.due("2: count(0)", x.count(0), place + 1);
            Check.due("2: person(" + place + ", 0)", x.person(place, 0), place);
            Check.due("2: nobody is behind", x.person(place + 1, 0), -1);
        }
        Check.due("2: the 17th", x.come(10, 0, 0), -3);
        Check.due("2: the 17th again", x.come(999, 9999, 5), -3);
        Check.due("2: count(0)", x.count(0), 16);
        Check.due("2: count(1)", x.count(1), 16);
        Check.due("2: count(16)", x.count(16), 4);
        Check.due("2: undo()", x.undo(), 3);
        Check.due("2: the one undone was the 16th", x.count(0), 15);
    }

    private static void comeAgainWhenThereIsRoom() {
        UmbrellaQueue left = Check.fullQueue();
        left.leave(7);
        Check.due("2: room by leave()", left.come(10, 0, 0), 15);
        Check.due("2: and no more", left.come(10, 0, 0), -3);
        UmbrellaQueue served = Check.fullQueue();
        served.serve();
        Check.due("2: room by serve()", served.come(10, 0, 0), 14);
        Check.due("2: and one more", served.come(10, 0, 0), 15);
        Check.due("2: and no more", served.come(10, 0, 0), -3);
        UmbrellaQueue wet = Check.fullQueue();
        wet.leave(15);
        wet.come(10, 0, 0);
        Check.due("2: gust(20, 0)", wet.gust(20, 0), 1);
        Check.due("2: room by gust()", wet.come(10, 0, 0), 15);
        Check.due("2: and no more", wet.come(10, 0, 0), -3);
        UmbrellaQueue undone = Check.fullQueue();
        undone.undo();
        Check.due("2: room by undo()", undone.come(10, 0, 0), 15);
        Check.due("2: and no more", undone.come(10, 0, 0), -3);
        Check.due("2: its number is given again", undone.person(15, 0), 15);
    }

    private static void comeAsTheTwoHundredth() {
        UmbrellaQueue x = new UmbrellaQueue();
        for (int i = 0; i < 199; i++) {
            x.come(10, 0, 0);
            x.leave(0);
        }
        Check.due("2: 199 came", x.count(1), 199);
        Check.due("2: the 200th comes", x.come(10, 0, 0), 0);
        Check.due("2: its number", x.person(0, 0), 199);
        Check.due("2: its place", x.placeOf(199), 0);
        Check.due("2: the 201st", x.come(10, 0, 0), -3);
        x.leave(0);
        Check.due("2: the 201st, to an empty queue", x.come(10, 0, 0), -3);
        Check.due("2: 200 came", x.count(1), 200);
        Check.due("2: they left", x.count(2), 200);
        Check.due("2: placeOf(199)", x.placeOf(199), -5);
    }

    private static void numbersGoOn() {
        UmbrellaQueue x = Check.queue(0, 0, 0);
        x.leave(2);
        x.leave(0);
        x.come(10, 0, 0);
        Check.due("2: no number comes again", x.person(1, 0), 3);
        Check.due("2: who stays keeps the number", x.person(0, 0), 1);
        x.gust(11, 0);
        Check.due("2: only one is left", x.count(0), 1);
        x.come(10, 0, 0);
        Check.due("2: nor behind a gust", x.person(1, 0), 4);
        x.serve();
        x.come(10, 0, 0);
        Check.due("2: nor behind the counter", x.person(0, 0), 5);
        Check.due("2: the new one is dry", x.person(0, 1), 0);
    }

    // ---- 3 leave

    /** People who differ in all that is told of them; the one at the place i came as number i. */
    private static UmbrellaQueue differentPeople(int people) {
        UmbrellaQueue x = new UmbrellaQueue();
        for (int i = 0; i < people; i++) {
            x.come(900 + i, 50 + i, i % 6);
        }
        return x;
    }

    private static void leaveAtEachPlace() {
        for (int people : new int[] {1, 2, 3, 16}) {
            for (int place = 0; place < people; place++) {
                UmbrellaQueue x = differentPeople(people);
                Check.due("3: leave(" + place + ") of " + people, x.leave(place), 0);
                Check.due("3: count(0)", x.count(0), people - 1);
                Check.due("3: count(2)", x.count(2), 1);
                for (int i = 0; i < people - 1; i++) {
                    int number = i < place ? i : i + 1;
                    Check.due("3: number at " + i, x.person(i, 0), number);
                    Check.due("3: patience at " + i, x.person(i, 2), 900 + number);
                    Check.due("3: coins at " + i, x.person(i, 3), 50 + number);
                    Check.due("3: width at " + i, x.person(i, 4), number % 6);
                }
                Check.due("3: nobody is behind", x.person(people - 1, 0), -1);
                Check.due("3: placeOf(" + place + ")", x.placeOf(place), -5);
            }
        }
    }

    private static void leaveWhereNobodyIs() {
        UmbrellaQueue full = Check.fullQueue();
        for (int place : NO_PLACES) {
            Check.due("3: leave(" + place + ") of 16", full.leave(place), -1);
        }
        Check.due("3: all are there", full.count(0), 16);
        Check.due("3: leave(15)", full.leave(15), 0);
        Check.due("3: leave(15) again", full.leave(15), -1);
        UmbrellaQueue one = Check.queue(0);
        Check.due("3: leave(1) of 1", one.leave(1), -1);
        Check.due("3: leave(0) of 1", one.leave(0), 0);
        Check.due("3: leave(0) of 0", one.leave(0), -1);
    }

    private static void leaveTellsTheWetness() {
        UmbrellaQueue x = Check.queue(0, 0, 0);
        x.gust(1, 0);
        Check.due("3: the wetness 1", x.leave(2), 1);
        for (int i = 0; i < 11; i++) {
            x.gust(99, 0);
        }
        Check.due("3: the wetness 999", x.leave(1), 999);
        x.pass(1);
        Check.due("3: the wetness 996", x.leave(0), 996);
        Check.due("3: count(2)", x.count(2), 3);
    }

    // ---- 4 letAhead

    private static void letAheadAtEachPlace() {
        for (int people : new int[] {2, 3, 16}) {
            for (int place = 0; place < people - 1; place++) {
                UmbrellaQueue x = differentPeople(people);
                Check.due("4: letAhead(" + place + ") of " + people, x.letAhead(place), place + 1);
                for (int i = 0; i < people; i++) {
                    int number = i == place ? i + 1 : i == place + 1 ? i - 1 : i;
                    Check.due("4: number at " + i, x.person(i, 0), number);
                    Check.due("4: patience at " + i, x.person(i, 2), 900 + number);
                    Check.due("4: coins at " + i, x.person(i, 3), 50 + number);
                    Check.due("4: width at " + i, x.person(i, 4), number % 6);
                    Check.due("4: placeOf(" + number + ")", x.placeOf(number), i);
                }
                Check.due("4: and back", x.letAhead(place), place);
                Check.due("4: the first one again", x.person(0, 0), 0);
            }
        }
    }

    private static void letAheadWithNobodyBehind() {
        UmbrellaQueue full = Check.fullQueue();
        for (int place : NO_PLACES) {
            Check.due("4: letAhead(" + place + ") of 16", full.letAhead(place), -1);
        }
        Check.due("4: letAhead(15) of 16", full.letAhead(15), -1);
        Check.due("4: letAhead(14) of 16", full.letAhead(14), 15);
        UmbrellaQueue one = Check.queue(0);
        Check.due("4: letAhead(0) of 1", one.letAhead(0), -1);
        Check.due("4: letAhead(1) of 1", one.letAhead(1), -1);
        UmbrellaQueue two = Check.queue(0, 0);
        Check.due("4: letAhead(1) of 2", two.letAhead(1), -1);
        Check.due("4: letAhead(0) of 2", two.letAhead(0), 1);
    }

    // ---- 5 swap

    private static void swapAtEachPlace() {
        for (int people : new int[] {2, 3, 16}) {
            for (int place = 0; place < people - 1; place++) {
                UmbrellaQueue x = new UmbrellaQueue();
                for (int i = 0; i < people; i++) {
                    x.come(900 + i, 50 + i, i % 2 + 1);
                }
                int width = place % 2 + 1;
                Check.due("5: swap(" + place + ") of " + people, x.swap(place), 3 - width);
                for (int i = 0; i < people; i++) {
                    boolean swapped = i == place || i == place + 1;
                    int due = swapped ? 2 - i % 2 : i % 2 + 1;
                    Check.due("5: width at " + i, x.person(i, 4), due);
                    Check.due("5: swaps at " + i, x.person(i, 8), swapped ? 1 : 0);
                    Check.due("5: number at " + i, x.person(i, 0), i);
                    Check.due("5: patience at " + i, x.person(i, 2), 900 + i);
                    Check.due("5: coins at " + i, x.person(i, 3), 50 + i);
                }
                Check.due("5: count(7)", x.count(7), 1);
            }
        }
    }

    private static void swapWithNobodyBehind() {
        UmbrellaQueue full = Check.fullQueue();
        full.leave(15);
        full.come(999, 0, 5);
        for (int place : NO_PLACES) {
            Check.due("5: swap(" + place + ") of 16", full.swap(place), -1);
        }
        Check.due("5: swap(15) of 16", full.swap(15), -1);
        Check.due("5: swap(13) of 16", full.swap(13), -11);
        Check.due("5: swap(14) of 16", full.swap(14), 5);
        UmbrellaQueue one = Check.queue(1);
        Check.due("5: swap(0) of 1", one.swap(0), -1);
        UmbrellaQueue two = Check.queue(1, 2);
        Check.due("5: swap(1) of 2", two.swap(1), -1);
        Check.due("5: swap(2) of 2", two.swap(2), -1);
        Check.due("5: swap(0) of 2", two.swap(0), 2);
    }

    /** Dry people: a swap is refused if both widths are the same, or one of them is 0. */
    private static void swapOfEachPairOfWidths() {
        for (int ahead = 0; ahead <= 5; ahead++) {
            for (int behind = 0; behind <= 5; behind++) {
                UmbrellaQueue x = Check.queue(ahead, behind);
                int reason = ahead == behind ? 1 : ahead == 0 || behind == 0 ? 2 : 0;
                String call = " of the widths " + ahead + ", " + behind;
                Check.due("20: reason(0)" + call, x.reason(0), reason);
                Check.due("5: swap(0)" + call, x.swap(0), reason == 0 ? behind : -10 - reason);
                Check.due("5: width at 0", x.person(0, 4), reason == 0 ? behind : ahead);
                Check.due("5: width at 1", x.person(1, 4), reason == 0 ? ahead : behind);
                Check.due("5: count(7)", x.count(7), reason == 0 ? 1 : 0);
            }
        }
    }

    /** Two neighbours of these widths, of whom at most one is wet. */
    private static UmbrellaQueue pair(int widthAhead, int widthBehind, int wetAhead, int wetBehind) {
        boolean aheadIsWet = wetAhead > 0;
        UmbrellaQueue x = wetOne(aheadIsWet ? widthAhead : widthBehind, wetAhead + wetBehind);
        x.come(999, 0, aheadIsWet ? widthBehind : widthAhead);
        if (!aheadIsWet) {
            x.letAhead(0);
        }
        return x;
    }

    /** One person of such a wetness: by rain if without an umbrella, else by the water of a neighbour's. */
    private static UmbrellaQueue wetOne(int width, int wetness) {
        UmbrellaQueue x = new UmbrellaQueue();
        x.come(999, 0, width);
        if (width > 0) {
            x.come(999, 0, 1);
        }
        for (int left = wetness; left > 0; left -= 49) {
            int more = Math.min(49, left);
            x.gust(width > 0 ? more * 2 : more, 0);
        }
        if (width > 0) {
            x.leave(1);
        }
        return x;
    }

    private static void swapByWetness() {
        // the widths ahead and behind, the wetness ahead and behind, what is due
        int[][] rows = {{0, 1, 49, 0, -12}, {0, 1, 50, 0, 1}, {0, 1, 51, 0, 1}, {1, 0, 0, 49, -12}, {1, 0, 0, 50, 0},
            {1, 0, 0, 51, 0}, {0, 5, 0, 0, -12}, {0, 5, 0, 50, -12}, {5, 0, 50, 0, -12}, {0, 5, 50, 0, 5},
            {1, 2, 0, 0, 2}, {1, 2, 1, 0, 2}, {1, 2, 0, 1, -13}, {2, 1, 1, 0, -13}, {2, 1, 0, 1, 1},
            {4, 5, 0, 49, -13}, {4, 5, 0, 50, -13}, {4, 5, 50, 0, 5}, {5, 4, 99, 0, -13}, {5, 4, 0, 99, 4},
            {3, 3, 1, 0, -11}, {3, 3, 0, 99, -11}, {0, 0, 99, 0, -11}, {0, 0, 0, 99, -11}};
        for (int[] row : rows) {
            UmbrellaQueue x = pair(row[0], row[1], row[2], row[3]);
            String call = "widths " + row[0] + ", " + row[1] + ", wetness " + row[2] + ", " + row[3];
            Check.due("5: " + call + ": wetness ahead", x.person(0, 1), row[2]);
            Check.due("5: " + call + ": wetness behind", x.person(1, 1), row[3]);
            Check.due("20: " + call, x.reason(0), row[4] < 0 ? -10 - row[4] : 0);
            Check.due("5: " + call, x.swap(0), row[4]);
            Check.due("5: " + call + ": count(7)", x.count(7), row[4] < 0 ? 0 : 1);
        }
    }

    private static void swapIsRefusedForTheFirstReason() {
        Check.due("5: both have none: 1 is ahead of 2", Check.queue(0, 0).swap(0), -11);
        Check.due("5: 2 is ahead of 3", pair(5, 0, 9, 0).swap(0), -12);
        Check.due("5: 2 is ahead of 3, from behind", pair(0, 5, 0, 9).swap(0), -12);
        Check.due("5: 1 is ahead of 3", pair(2, 2, 9, 0).swap(0), -11);
    }

    private static void swapThatIsRefusedIsNotCounted() {
        UmbrellaQueue x = pair(2, 1, 1, 0);
        int states = x.count(16);
        for (int i = 0; i < 3; i++) {
            Check.due("5: swap(0)", x.swap(0), -13);
        }
        Check.due("5: swaps ahead", x.person(0, 8), 0);
        Check.due("5: swaps behind", x.person(1, 8), 0);
        Check.due("5: count(7)", x.count(7), 0);
        Check.due("5: count(16)", x.count(16), states);
        Check.due("5: pass(1)", x.pass(1), 2);
        Check.due("5: both are dry now", x.swap(0), 1);
        Check.due("5: and back", x.swap(0), 2);
        Check.due("5: swaps ahead", x.person(0, 8), 2);
        Check.due("5: swaps behind", x.person(1, 8), 2);
        Check.due("5: count(7)", x.count(7), 2);
    }

    // ---- 6 set

    private static final int[] FIRST = {3, 2, 5};
    private static final int[] LEAST = {0, 1, 0};
    private static final int[] MOST = {50, 4, 99};

    private static void setAtTheEndsOfItsRanges() {
        for (int which = 0; which <= 2; which++) {
            UmbrellaQueue x = new UmbrellaQueue();
            int before = FIRST[which];
            for (int value = LEAST[which]; value <= MOST[which]; value++) {
                Check.due("6: set(" + which + ", " + value + ")", x.set(which, value), value == before ? -5 : before);
                Check.due("6: count", x.count(13 + which), value);
                before = value;
            }
            for (int other = 0; other <= 2; other++) {
                Check.due("6: only one is set", x.count(13 + other), other == which ? MOST[other] : FIRST[other]);
            }
        }
    }

    private static void setBeyondItsRanges() {
        UmbrellaQueue x = new UmbrellaQueue();
        for (int which : new int[] {-1, 3, 4, MIN, MAX}) {
            for (int value : new int[] {0, 1, 2, 3, 5, -1, 100, MIN, MAX}) {
                Check.due("6: set(" + which + ", " + value + ")", x.set(which, value), -1);
            }
        }
        for (int which = 0; which <= 2; which++) {
            for (int value : new int[] {LEAST[which] - 1, MOST[which] + 1, -100, MIN, MAX}) {
                Check.due("6: set(" + which + ", " + value + ")", x.set(which, value), -2);
            }
            Check.due("6: nothing is set", x.count(13 + which), FIRST[which]);
        }
        Check.due("6: nothing is recorded", x.count(16), 0);
    }

    private static void setWhatIsSoAlready() {
        for (int which = 0; which <= 2; which++) {
            UmbrellaQueue x = new UmbrellaQueue();
            Check.due("6: as it is at first", x.set(which, FIRST[which]), -5);
            Check.due("6: nothing is recorded", x.count(16), 0);
            x.set(which, LEAST[which]);
            Check.due("6: the least again", x.set(which, LEAST[which]), -5);
            Check.due("6: one state", x.count(16), 1);
            Check.due("6: from the least", x.set(which, MOST[which]), LEAST[which]);
            Check.due("6: the most again", x.set(which, MOST[which]), -5);
            Check.due("6: two states", x.count(16), 2);
        }
    }
}
