/** Promises 17 to 24. */
public final class TellingTest {
    public static void main(String[] args) {
        promise17Person();
        promise17Reach();
        promise18PlaceOf();
        promise19IfGust();
        promise20Reason();
        promise21BestSwap();
        promise22Payer();
        promise23Bears();
        promise24Count();
        Check.end();
    }

    private static void promise17Person() {
        UmbrellaQueue x = new UmbrellaQueue();
        x.come(700, 80, 2);
        x.come(701, 81, 0);
        x.come(702, 82, 1);
        x.swap(1);
        x.swap(0);
        x.leave(0);
        x.gust(20, 0);
        int[][] due = {{1, 30, 701, 81, 0, -5, -5, 0, 0}, {2, 0, 702, 82, 1, 1, 1, 1, 0}};
        for (int place = 0; place < 2; place++) {
            for (int what = 0; what <= 8; what++) {
                Check.due("17: person(" + place + ", " + what + ")", x.person(place, what), due[place][what]);
            }
            Check.due("17: person(" + place + ", -1)", x.person(place, -1), -2);
            Check.due("17: person(" + place + ", 9)", x.person(place, 9), -2);
        }
        Check.due("17: person(-1, 0)", x.person(-1, 0), -1);
        Check.due("17: person(2, 0)", x.person(2, 0), -1);
        Check.due("17: person(2, 9)", x.person(2, 9), -1);
        Check.due("17: person(MAX, MAX)", x.person(Integer.MAX_VALUE, Integer.MAX_VALUE), -1);
        Check.due("17: person(0, MIN)", x.person(0, Integer.MIN_VALUE), -2);
        UmbrellaQueue y = Check.queue(1, 3, 2);
        y.swap(0);
        y.swap(0);
        y.swap(1);
        Check.due("17: swaps of 0", y.person(0, 8), 2);
        Check.due("17: swaps of 1", y.person(1, 8), 3);
        Check.due("17: swaps of 2", y.person(2, 8), 1);
    }

    private static void promise17Reach() {
        int[] before = {0, 0, 1, 1, 2, 2};
        int[] behind = {0, 0, 0, 1, 1, 2};
        for (int width = 1; width <= 5; width++) {
            UmbrellaQueue x = Check.queue(width, width, width, width, width, width, width);
            for (int place = 0; place < 7; place++) {
                Check.due("17: least of " + width, x.person(place, 5), Math.max(0, place - before[width]));
                Check.due("17: greatest of " + width, x.person(place, 6), Math.min(6, place + behind[width]));
            }
            Check.due("17: umbrellas in the middle", x.person(3, 7), width);
        }
        UmbrellaQueue y = Check.queue(5, 0, 4, 0, 0);
        int[] umbrellas = {2, 2, 2, 1, 0};
        for (int place = 0; place < 5; place++) {
            Check.due("17: umbrellas over " + place, y.person(place, 7), umbrellas[place]);
        }
        y.leave(4);
        y.leave(3);
        Check.due("17: as far as there are such places", y.person(2, 6), 2);
    }

    private static void promise18PlaceOf() {
        UmbrellaQueue x = Check.queue(0, 0, 0, 0);
        x.leave(1);
        x.letAhead(0);
        Check.due("18: placeOf(0)", x.placeOf(0), 1);
        Check.due("18: placeOf(1)", x.placeOf(1), -5);
        Check.due("18: placeOf(2)", x.placeOf(2), 0);
        Check.due("18: placeOf(3)", x.placeOf(3), 2);
        Check.due("18: placeOf(4)", x.placeOf(4), -5);
        Check.due("18: placeOf(199)", x.placeOf(199), -5);
        Check.due("18: placeOf(200)", x.placeOf(200), -2);
        Check.due("18: placeOf(-1)", x.placeOf(-1), -2);
        x.leave(2);
        Check.due("18: placeOf(3)", x.placeOf(3), -5);
        x.leave(1);
        Check.due("18: placeOf(0)", x.placeOf(0), -5);
        UmbrellaQueue full = Check.queue(0, 0, 0, 0, 0, 0, 0, 0, 0, 0, 0, 0, 0, 0, 0, 0);
        Check.due("18: placeOf(15)", full.placeOf(15), 15);
        Check.due("18: placeOf(16)", full.placeOf(16), -5);
        full.leave(15);
        Check.due("18: placeOf(15)", full.placeOf(15), -5);
    }

    private static void promise19IfGust() {
        UmbrellaQueue x = new UmbrellaQueue();
        int[] widths = {0, 0, 3, 0, 0, 1, 0};
        for (int width : widths) {
            x.come(30, 0, width);
        }
        // covered straight, from ahead, from behind; umbrellas that run off; the wetness by 21 drops
        int[][] due = {{0, 0, 1, 1, 31}, {1, 1, 1, 0, 0}, {1, 1, 1, 0, 0}, {1, 1, 1, 0, 0},
            {0, 1, 1, 2, 41}, {1, 1, 1, 0, 0}, {0, 1, 0, 1, 31}};
        for (int place = 0; place < 7; place++) {
            for (int side = 0; side <= 2; side++) {
                Check.due("19: covered at " + place, x.ifGust(place, 21, side, 0), due[place][side]);
                Check.due("19: running off onto " + place, x.ifGust(place, 21, side, 1), due[place][3]);
            }
            Check.due("19: wetness at " + place, x.ifGust(place, 21, 0, 2), due[place][4]);
            Check.due("19: leaves at " + place, x.ifGust(place, 21, 0, 3), due[place][4] > 30 ? 1 : 0);
            Check.due("19: half of 21 is rounded down", x.ifGust(place, 20, 0, 2), due[place][4] - 1 + due[place][0]);
            Check.due("19: what = -1", x.ifGust(place, 21, 0, -1), -2);
            Check.due("19: what = 4", x.ifGust(place, 21, 0, 4), -2);
        }
        Check.due("19: 30 is not above 30", x.ifGust(0, 20, 0, 3), 0);
        Check.due("19: covered, but leaves", x.ifGust(4, 99, 1, 3), 1);
        Check.due("19: covered from ahead", x.ifGust(6, 21, 1, 2), 10);
        Check.due("19: not from behind", x.ifGust(6, 21, 2, 2), 31);
        Check.due("19: nothing has changed", x.count(10) + x.count(8), 0);
        Check.due("19: drops 0", x.ifGust(0, 0, 0, 0), -2);
        Check.due("19: drops 100", x.ifGust(0, 100, 0, 0), -2);
        Check.due("19: side -1", x.ifGust(0, 1, -1, 0), -2);
        Check.due("19: side 3", x.ifGust(0, 1, 3, 0), -2);
        Check.due("19: place -1", x.ifGust(-1, 1, 0, 0), -1);
        Check.due("19: place 7", x.ifGust(7, 0, 9, 9), -1);
        Check.due("19: an umbrella whose water is none", x.ifGust(0, 1, 0, 1), 1);
        UmbrellaQueue y = Check.queue(0);
        for (int i = 0; i < 10; i++) {
            y.gust(99, 0);
        }
        Check.due("19: wetness", y.ifGust(0, 8, 0, 2), 998);
        Check.due("19: wetness", y.ifGust(0, 10, 0, 2), 999);
        Check.due("19: a patience of 999", y.ifGust(0, 99, 0, 3), 0);
    }

    private static void promise20Reason() {
        UmbrellaQueue x = Check.queue(1, 1, 0, 2, 4);
        int[] due = {1, 2, 2, 0, -1, -1};
        for (int place = 0; place < 6; place++) {
            Check.due("20: reason(" + place + ")", x.reason(place), due[place]);
        }
        Check.due("20: reason(-1)", x.reason(-1), -1);
        Check.due("20: reason(MAX)", x.reason(Integer.MAX_VALUE), -1);
        Check.due("20: nobody is there", new UmbrellaQueue().reason(0), -1);
        UmbrellaQueue y = Check.queue(0, 1);
        y.set(0, 1);
        y.gust(32, 0);
        y.gust(1, 0);
        Check.due("20: wetness", y.person(0, 1), 49);
        Check.due("20: 49 wetter", y.reason(0), 2);
        y.gust(1, 0);
        Check.due("20: 50 wetter", y.reason(0), 0);
        y.pass(1);
        Check.due("20: 49 again", y.reason(0), 2);
        UmbrellaQueue z = Check.queue(1, 3);
        z.gust(2, 0);
        Check.due("20: the wetter one would get the narrower one", z.reason(0), 3);
        z.letAhead(0);
        Check.due("20: the other way round", z.reason(0), 3);
        z.pass(1);
        Check.due("20: equally wet", z.reason(0), 0);
    }

    private static void promise21BestSwap() {
        UmbrellaQueue x = new UmbrellaQueue();
        Check.due("21: nobody is there", x.bestSwap(5, 0), -5);
        Check.due("21: drops 0", x.bestSwap(0, 0), -2);
        Check.due("21: drops 100", x.bestSwap(100, 0), -2);
        Check.due("21: side -1", x.bestSwap(5, -1), -2);
        Check.due("21: side 3", x.bestSwap(5, 3), -2);
        Check.due("21: all swaps are refused", Check.queue(2, 2, 2, 0, 0).bestSwap(10, 0), -5);
        Check.due("21: no swap makes them drier", Check.queue(1, 2, 1).bestSwap(1, 0), -5);
        Check.due("21: no swap makes them drier", Check.queue(1, 3, 0).bestSwap(10, 0), -5);
        UmbrellaQueue same = Check.queue(0, 1, 2, 0, 1, 2);
        Check.due("21: of several the lowest place", same.bestSwap(1, 0), 1);
        Check.due("21: nothing has changed", same.person(2, 4) + same.count(7) * 10, 2);
        Check.due("21: the later one is better", Check.queue(0, 0, 1, 2, 0, 0, 1, 3).bestSwap(10, 0), 6);
        Check.due("21: the earlier one is better", Check.queue(3, 1, 0, 0, 0, 1, 3, 0, 0).bestSwap(1, 0), 0);
        Check.due("21: straight", Check.queue(0, 1, 2).bestSwap(1, 0), 1);
        Check.due("21: from ahead", Check.queue(0, 1, 2).bestSwap(1, 1), 1);
        Check.due("21: from behind nobody gets wet", Check.queue(0, 1, 2).bestSwap(1, 2), -5);
        UmbrellaQueue full = Check.queue(1, 2, 1, 2, 1, 2, 1, 2, 1, 2, 1, 2, 1, 0, 2, 3);
        Check.due("21: sixteen people", full.bestSwap(1, 0), -5);
        UmbrellaQueue last = Check.queue(1, 1, 1, 1, 1, 1, 1, 1, 1, 1, 1, 1, 1, 0, 1, 2);
        Check.due("21: sixteen people, the last ones", last.bestSwap(1, 0), 14);
        bestSwapOfPeopleWhoWouldLeave();
        bestSwapOfPeopleWhoGetNoWetter();
    }

    private static void bestSwapOfPeopleWhoWouldLeave() {
        UmbrellaQueue x = new UmbrellaQueue();
        x.come(10, 0, 0);
        x.come(10, 0, 1);
        x.come(10, 0, 2);
        Check.due("21: without anybody leaving", x.bestSwap(99, 0), 1);
        Check.due("21: nobody has left", x.count(0), 3);
    }

    private static void bestSwapOfPeopleWhoGetNoWetter() {
        UmbrellaQueue x = Check.queue(0);
        for (int i = 0; i < 10; i++) {
            x.gust(99, 0);
        }
        x.gust(8, 0);
        x.come(999, 0, 1);
        x.come(999, 0, 2);
        Check.due("21: at 998", x.bestSwap(1, 0), 0);
        x.gust(1, 0);
        Check.due("21: at 999", x.bestSwap(1, 0), -5);
    }

    private static void promise22Payer() {
        UmbrellaQueue x = new UmbrellaQueue();
        Check.due("22: payer(0), nobody there", x.payer(0), -5);
        Check.due("22: payer(1), nobody there", x.payer(1), -5);
        Check.due("22: payer(2), nobody there", x.payer(2), -2);
        Check.due("22: payer(-1)", x.payer(-1), -2);
        x.come(999, 30, 0);
        Check.due("22: one alone", x.payer(1), 5);
        x.gust(10, 0);
        x.come(999, 7, 0);
        x.come(999, 12, 0);
        Check.due("22: payer(0)", x.payer(0), 1);
        Check.due("22: payer(1)", x.payer(1), 7);
        x.letAhead(1);
        Check.due("22: payer(0)", x.payer(0), 1);
        Check.due("22: payer(1)", x.payer(1), 10);
        x.set(1, 3);
        Check.due("22: of several the first", x.payer(0), 1);
        Check.due("22: as many coins as there are", x.payer(1), 12);
        x.set(1, 1);
        Check.due("22: payer(0)", x.payer(0), 0);
        x.set(2, 31);
        Check.due("22: payer(1)", x.payer(1), 30);
        Check.due("22: nothing is paid", x.count(5), 0);
        Check.due("22: serve() pays so", x.serve(), 30);
    }

    private static void promise23Bears() {
        UmbrellaQueue x = new UmbrellaQueue();
        x.come(100, 0, 0);
        x.come(100, 0, 2);
        x.come(100, 0, 0);
        x.come(999, 0, 0);
        x.come(998, 0, 0);
        Check.due("23: bears(-1, 5)", x.bears(-1, 5), -1);
        Check.due("23: bears(5, 0)", x.bears(5, 0), -1);
        Check.due("23: bears(0, 0)", x.bears(0, 0), -2);
        Check.due("23: bears(0, 100)", x.bears(0, 100), -2);
        Check.due("23: covered", x.bears(0, 99), -5);
        Check.due("23: water runs off onto it", x.bears(2, 20), 3);
        Check.due("23: without any left", x.bears(2, 1), 100);
        Check.due("23: a patience of 999", x.bears(3, 99), -5);
        Check.due("23: a patience of 998", x.bears(4, 99), 10);
        x.leave(3);
        x.leave(3);
        for (int left = 3; left >= 0; left--) {
            Check.due("23: bears(2, 20)", x.bears(2, 20), left);
            Check.due("23: who leaves", x.gust(20, 0), left == 0 ? 1 : 0);
        }
        UmbrellaQueue y = new UmbrellaQueue();
        y.come(40, 0, 0);
        y.gust(10, 0);
        Check.due("23: up to the patience", y.bears(0, 10), 3);
        Check.due("23: just above it", y.bears(0, 31), 0);
        UmbrellaQueue z = Check.queue(1);
        z.come(50, 0, 1);
        Check.due("23: covered, but water runs off", z.bears(1, 21), 5);
        Check.due("23: covered, and one drop", z.bears(1, 1), -5);
    }

    private static void promise24Count() {
        UmbrellaQueue x = new UmbrellaQueue();
        Check.due("24: count(-1)", x.count(-1), -2);
        Check.due("24: count(18)", x.count(18), -2);
        Check.due("24: count(MIN)", x.count(Integer.MIN_VALUE), -2);
        Check.due("24: count(11), nobody there", x.count(11), -5);
        for (int i = 0; i < 10; i++) {
            x.come(i == 7 ? 20 : 500, 3, i % 4);
        }
        x.leave(9);
        x.set(0, 4);
        x.set(2, 6);
        x.set(1, 3);
        x.gust(30, 0);
        x.gust(31, 2);
        x.gust(1, 1);
        x.pass(2);
        x.swap(1);
        x.serve();
        x.type('x');
        int[] due = {5, 10, 1, 1, 3, 3, 15, 1, 3, 2, 148, 1, 1, 4, 3, 6, 4, 1};
        for (int what = 0; what < due.length; what++) {
            Check.due("24: count(" + what + ")", x.count(what), due[what]);
        }
        UmbrellaQueue full = Check.queue(1, 2, 1, 2, 1, 2, 1, 2, 1, 2, 1, 2, 1, 0, 1, 0);
        Check.due("24: the first of sixteen dry ones", full.count(11), 0);
        Check.due("24: bare places of sixteen", full.count(12), 2);
        full.gust(1, 0);
        Check.due("24: the wettest of sixteen", full.count(11), 13);
        Check.due("24: the wetness of sixteen", full.count(10), 2);
        UmbrellaQueue y = Check.queue(0, 0, 0, 2, 0);
        Check.due("24: places that no umbrella reaches", y.count(12), 3);
        y.gust(1, 0);
        Check.due("24: of several wettest the first", y.count(11), 0);
        y.letAhead(2);
        Check.due("24: places that no umbrella reaches", y.count(12), 3);
        y.gust(20, 0);
        Check.due("24: the wettest", y.count(11), 0);
        y.leave(0);
        Check.due("24: the wettest", y.count(11), 2);
    }
}
