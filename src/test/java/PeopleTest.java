/** Promises 1 to 6. */
public final class PeopleTest {
    public static void main(String[] args) {
        promise01NewObject();
        promise02Come();
        promise02ComeToWhereOthersStood();
        promise03Leave();
        promise04LetAhead();
        promise05Swap();
        promise05SwapThatIsRefused();
        promise06Set();
        Check.end();
    }

    private static void promise01NewObject() {
        UmbrellaQueue x = new UmbrellaQueue();
        for (int what = 0; what <= 17; what++) {
            int want = what == 11 ? -5 : what == 13 ? 3 : what == 14 ? 2 : what == 15 ? 5 : 0;
            Check.due("1: count(" + what + ")", x.count(what), want);
        }
        Check.due("1: undo()", x.undo(), -5);
        Check.due("1: restore()", x.restore(), -5);
        Check.due("1: stopped(0)", x.stopped(0), -5);
        Check.due("1: stopped(1)", x.stopped(1), -5);
        Check.due("1: person(0, 0)", x.person(0, 0), -1);
        Check.due("1: clearText()", x.clearText(), 0);
    }

    private static void promise02Come() {
        UmbrellaQueue x = new UmbrellaQueue();
        Check.due("2: come(10, 0, 0)", x.come(10, 0, 0), 0);
        Check.due("2: come(999, 9999, 5)", x.come(999, 9999, 5), 1);
        Check.due("2: come(9, 0, 0)", x.come(9, 0, 0), -2);
        Check.due("2: come(1000, 0, 0)", x.come(1000, 0, 0), -2);
        Check.due("2: come(10, -1, 0)", x.come(10, -1, 0), -2);
        Check.due("2: come(10, 10000, 0)", x.come(10, 10000, 0), -2);
        Check.due("2: come(10, 0, -1)", x.come(10, 0, -1), -2);
        Check.due("2: come(10, 0, 6)", x.come(10, 0, 6), -2);
        Check.due("2: come(MIN)", x.come(Integer.MIN_VALUE, Integer.MAX_VALUE, 0), -2);
        Check.due("2: count(16)", x.count(16), 2);
        Check.due("2: count(1)", x.count(1), 2);
        Check.due("2: number", x.person(1, 0), 1);
        Check.due("2: wetness", x.person(1, 1), 0);
        Check.due("2: patience", x.person(1, 2), 999);
        Check.due("2: coins", x.person(1, 3), 9999);
        Check.due("2: width", x.person(1, 4), 5);
        Check.due("2: swaps", x.person(1, 8), 0);
        for (int place = 2; place < 16; place++) {
            Check.due("2: come to " + place, x.come(100, 0, 1), place);
        }
        Check.due("2: the 17th comes", x.come(100, 0, 1), -3);
        Check.due("2: a bad one, full", x.come(100, 0, 6), -2);
        Check.due("2: count(0)", x.count(0), 16);
        x.gust(5, 0);
        x.leave(0);
        Check.due("2: one more comes", x.come(100, 0, 0), 15);
        Check.due("2: dry, though there stood a wet one", x.person(15, 1), 0);
        Check.due("2: its number", x.person(15, 0), 16);
        twoHundredCome();
    }

    private static void promise02ComeToWhereOthersStood() {
        UmbrellaQueue x = new UmbrellaQueue();
        for (int i = 0; i < 15; i++) {
            x.come(999, 9, 1);
        }
        x.come(999, 9, 2);
        x.swap(14);
        x.gust(10, 0);
        x.leave(15);
        x.come(50, 1, 0);
        int[] due = {16, 0, 50, 1, 0, -5, -5, 0, 0};
        for (int what = 0; what <= 8; what++) {
            Check.due("2: person(15, " + what + ")", x.person(15, what), due[what]);
        }
    }

    private static void twoHundredCome() {
        UmbrellaQueue x = new UmbrellaQueue();
        for (int number = 0; number < 200; number++) {
            Check.due("2: come, number " + number, x.come(100, 0, 1), 0);
            if (number < 199) {
                x.leave(0);
            }
        }
        Check.due("2: number of the last one", x.person(0, 0), 199);
        Check.due("2: the 201st comes", x.come(100, 0, 1), -3);
        Check.due("2: placeOf(199)", x.placeOf(199), 0);
        x.undo();
        Check.due("2: behind undo() the 200th comes again", x.come(100, 0, 1), 0);
        Check.due("2: and no more", x.come(100, 0, 1), -3);
    }

    private static void promise03Leave() {
        UmbrellaQueue x = Check.queue(1, 0, 0, 3);
        x.gust(21, 0);
        Check.due("3: wetness of 1", x.person(1, 1), 41);
        Check.due("3: leave(-1)", x.leave(-1), -1);
        Check.due("3: leave(4)", x.leave(4), -1);
        Check.due("3: leave(MAX)", x.leave(Integer.MAX_VALUE), -1);
        Check.due("3: leave(1)", x.leave(1), 41);
        Check.due("3: count(0)", x.count(0), 3);
        Check.due("3: count(2)", x.count(2), 1);
        Check.due("3: count(16)", x.count(16), 4);
        Check.due("3: number at 1", x.person(1, 0), 2);
        Check.due("3: number at 2", x.person(2, 0), 3);
        Check.due("3: width at 2", x.person(2, 4), 3);
        Check.due("3: person(3, 0)", x.person(3, 0), -1);
        Check.due("3: leave(2)", x.leave(2), 0);
        Check.due("3: leave(0)", x.leave(0), 0);
        Check.due("3: leave(0)", x.leave(0), 0);
        Check.due("3: leave(0)", x.leave(0), -1);
        Check.due("3: count(2)", x.count(2), 4);
        Check.due("3: those too wet are others", x.count(3), 0);
        UmbrellaQueue y = Check.queue(0, 1, 2);
        y.swap(1);
        y.leave(0);
        Check.due("3: swaps come along", y.person(0, 8) * 10 + y.person(1, 8), 11);
        y.leave(0);
        y.come(100, 0, 0);
        Check.due("3: swaps come along", y.person(0, 8) * 10 + y.person(1, 8), 10);
    }

    private static void promise04LetAhead() {
        UmbrellaQueue x = new UmbrellaQueue();
        x.come(100, 1, 0);
        x.come(200, 2, 5);
        x.come(300, 3, 1);
        x.come(400, 4, 2);
        x.swap(2);
        Check.due("4: letAhead(1)", x.letAhead(1), 2);
        int[] ahead = {2, 0, 300, 3, 2};
        int[] behind = {1, 0, 200, 2, 5};
        for (int what = 0; what < 5; what++) {
            Check.due("4: person(1, " + what + ")", x.person(1, what), ahead[what]);
            Check.due("4: person(2, " + what + ")", x.person(2, what), behind[what]);
        }
        Check.due("4: swaps come along", x.person(1, 8), 1);
        Check.due("4: swaps come along", x.person(2, 8), 0);
        Check.due("4: it is no swap", x.count(7), 1);
        UmbrellaQueue y = Check.queue(0, 1);
        y.gust(20, 0);
        Check.due("4: letAhead(0)", y.letAhead(0), 1);
        Check.due("4: wetness comes along", y.person(1, 1), 30);
        Check.due("4: wetness comes along", y.person(0, 1), 0);
        Check.due("4: letAhead(1)", y.letAhead(1), -1);
        Check.due("4: letAhead(2)", y.letAhead(2), -1);
        Check.due("4: letAhead(-1)", y.letAhead(-1), -1);
        Check.due("4: letAhead(MAX)", y.letAhead(Integer.MAX_VALUE), -1);
        Check.due("4: it is an act", y.undo(), 3);
        Check.due("4: undone", y.person(0, 0), 0);
    }

    private static void promise05Swap() {
        UmbrellaQueue x = Check.queue(1, 4, 2);
        Check.due("5: swap(-1)", x.swap(-1), -1);
        Check.due("5: swap(2)", x.swap(2), -1);
        Check.due("5: swap(3)", x.swap(3), -1);
        Check.due("5: swap(MAX)", x.swap(Integer.MAX_VALUE), -1);
        Check.due("5: swap(MIN)", x.swap(Integer.MIN_VALUE), -1);
        Check.due("5: swap(0)", x.swap(0), 4);
        Check.due("5: swap(1)", x.swap(1), 2);
        Check.due("5: width at 2", x.person(2, 4), 1);
        Check.due("5: numbers stay", x.person(0, 0), 0);
        Check.due("5: swaps of 0", x.person(0, 8), 1);
        Check.due("5: swaps of 1", x.person(1, 8), 2);
        Check.due("5: swaps of 2", x.person(2, 8), 1);
        Check.due("5: count(7)", x.count(7), 2);
        Check.due("5: count(16)", x.count(16), 4);
        Check.due("5: undo()", x.undo(), 3);
        Check.due("5: undone", x.person(1, 8), 1);
        Check.due("5: undone", x.count(7), 1);
    }

    private static void promise05SwapThatIsRefused() {
        UmbrellaQueue same = Check.queue(2, 2, 0, 0);
        Check.due("5: same widths", same.swap(0), -11);
        Check.due("5: both without", same.swap(2), -11);
        Check.due("5: no umbrella and no wetter", same.swap(1), -12);
        Check.due("5: nothing is recorded", same.count(16), 4);
        same.undo();
        Check.due("5: nothing is recorded", same.count(0), 3);
        // The one without an umbrella stands ahead, then behind; at 49, then at 50.
        for (int ahead = 0; ahead <= 1; ahead++) {
            UmbrellaQueue x = ahead == 1 ? Check.queue(0, 0, 1) : Check.queue(1, 0, 0);
            int place = ahead == 1 ? 1 : 0;
            x.gust(32, 0);
            Check.due("5: 48 wetter", x.swap(place), -12);
            x.set(0, 0);
            x.gust(1, 0);
            Check.due("5: 49 wetter", x.swap(place), -12);
            x.gust(1, 0);
            Check.due("5: 50 wetter", x.swap(place), ahead == 1 ? 1 : 0);
        }
        // Wet ones with umbrellas: rain runs off the first one's onto the second.
        UmbrellaQueue x = Check.queue(1, 3);
        x.gust(2, 0);
        x.leave(0);
        x.come(100, 0, 1);
        Check.due("5: wetter by 1", x.person(0, 1) - x.person(1, 1), 1);
        Check.due("5: who gets the narrower one is the wetter one", x.swap(0), -13);
        x.letAhead(0);
        Check.due("5: refused from behind, too", x.swap(0), -13);
        x.pass(1);
        Check.due("5: equally wet", x.swap(0), 3);
        UmbrellaQueue y = Check.queue(1, 1);
        y.gust(2, 0);
        y.leave(0);
        y.come(100, 0, 3);
        Check.due("5: who gets the narrower one is the drier one", y.swap(0), 3);
    }

    private static void promise06Set() {
        UmbrellaQueue x = new UmbrellaQueue();
        Check.due("6: set(-1, 0)", x.set(-1, 0), -1);
        Check.due("6: set(3, 0)", x.set(3, 0), -1);
        Check.due("6: set(3, -1)", x.set(3, -1), -1);
        int[] least = {0, 1, 0};
        int[] most = {50, 4, 99};
        int[] first = {3, 2, 5};
        for (int which = 0; which < 3; which++) {
            Check.due("6: below " + which, x.set(which, least[which] - 1), -2);
            Check.due("6: above " + which, x.set(which, most[which] + 1), -2);
            Check.due("6: far below " + which, x.set(which, Integer.MIN_VALUE), -2);
            Check.due("6: so already " + which, x.set(which, first[which]), -5);
            Check.due("6: nothing is recorded", x.count(16), which);
            Check.due("6: least " + which, x.set(which, least[which]), first[which]);
            Check.due("6: set " + which, x.count(13 + which), least[which]);
            Check.due("6: most " + which, x.set(which, most[which]), least[which]);
            Check.due("6: set " + which, x.count(13 + which), most[which]);
            x.undo();
            Check.due("6: undone " + which, x.count(13 + which), least[which]);
        }
    }
}
