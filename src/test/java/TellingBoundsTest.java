/** Promises 17 to 24 at the ends of their ranges and just beyond them, in empty queues and in full ones. */
public final class TellingBoundsTest {
    private static final int MIN = Integer.MIN_VALUE;
    private static final int MAX = Integer.MAX_VALUE;
    private static final int[] REACH_AHEAD = {0, 0, 1, 1, 2, 2};
    private static final int[] REACH_BEHIND = {0, 0, 0, 1, 1, 2};
    private static final int[] BEYOND_GUSTS = {0, 100, -1, 101, MIN, MAX};
    private static final int[] BEYOND_SIDES = {-1, 3, 4, MIN, MAX};

    public static void main(String[] args) {
        personBeyondItsRanges();
        personInAFullQueue();
        reachAtBothEndsOfTheQueue();
        umbrellasThatReachAPlace();
        placeOfTheEndsOfItsRange();
        ifGustBeyondItsRanges();
        ifGustAtTheEndsOfItsRanges();
        ifGustIsWhatTheGustDoes();
        ifGustByPatience();
        reasonBeyondItsRange();
        bestSwapBeyondItsRanges();
        bestSwapWhereThereIsNone();
        bestSwapOfSeveral();
        bestSwapAtEachPlace();
        payerBeyondItsRange();
        payerIsWhatServeDoes();
        bearsBeyondItsRanges();
        bearsJustSoMany();
        bearsWithoutEnd();
        bearsIsWhatGustsDo();
        countBeyondItsRange();
        countOfTheWettest();
        countOfPlacesThatNoUmbrellaReaches();
        accountsAddUp();
        Check.end();
    }

    // ---- 17 person

    private static void personBeyondItsRanges() {
        for (int people : new int[] {0, 1, 2, 16}) {
            UmbrellaQueue x = Check.queue(new int[people]);
            for (int place : new int[] {-1, people, people + 1, 16, 17, MIN, MAX}) {
                for (int what : new int[] {0, 1, 5, 8, -1, 9, MIN, MAX}) {
                    Check.due("17: person(" + place + ", " + what + ") of " + people, x.person(place, what), -1);
                }
            }
            for (int place = 0; place < people; place++) {
                for (int what : new int[] {-1, 9, 10, MIN, MAX}) {
                    Check.due("17: person(" + place + ", " + what + ") of " + people, x.person(place, what), -2);
                }
            }
        }
    }

    private static void personInAFullQueue() {
        UmbrellaQueue x = new UmbrellaQueue();
        for (int i = 0; i < 16; i++) {
            x.come(984 + i, 9984 + i, i % 3 + 1);
        }
        x.swap(14);
        for (int place = 0; place < 16; place++) {
            int width = place == 14 ? 1 : place == 15 ? 3 : place % 3 + 1;
            int[] due = {place, 0, 984 + place, 9984 + place, width, Math.max(0, place - REACH_AHEAD[width]),
                Math.min(15, place + REACH_BEHIND[width])};
            for (int what = 0; what < 7; what++) {
                Check.due("17: person(" + place + ", " + what + ")", x.person(place, what), due[what]);
            }
            Check.due("17: person(" + place + ", 8)", x.person(place, 8), place < 14 ? 0 : 1);
        }
    }

    private static void reachAtBothEndsOfTheQueue() {
        for (int people = 1; people <= 16; people++) {
            for (int width = 0; width <= 5; width++) {
                int[] widths = new int[people];
                for (int place = 0; place < people; place++) {
                    widths[place] = width;
                }
                UmbrellaQueue x = Check.queue(widths);
                for (int place = 0; place < people; place++) {
                    int least = width == 0 ? -5 : Math.max(0, place - REACH_AHEAD[width]);
                    int greatest = width == 0 ? -5 : Math.min(people - 1, place + REACH_BEHIND[width]);
                    Check.due("17: least of " + width + " at " + place, x.person(place, 5), least);
                    Check.due("17: greatest of " + width + " at " + place, x.person(place, 6), greatest);
                }
            }
        }
    }

    private static void umbrellasThatReachAPlace() {
        for (int people : new int[] {1, 5, 16}) {
            for (int width = 0; width <= 5; width++) {
                for (int holder = 0; holder < people; holder++) {
                    int[] widths = new int[people];
                    widths[holder] = width;
                    UmbrellaQueue x = Check.queue(widths);
                    int bare = 0;
                    for (int place = 0; place < people; place++) {
                        boolean reached = width > 0 && place >= holder - REACH_AHEAD[width]
                            && place <= holder + REACH_BEHIND[width];
                        bare += reached ? 0 : 1;
                        Check.due("17: umbrellas over " + place, x.person(place, 7), reached ? 1 : 0);
                        Check.due("19: covered at " + place, x.ifGust(place, 1, 0, 0), reached ? 1 : 0);
                    }
                    Check.due("24: places that no umbrella reaches", x.count(12), bare);
                }
            }
        }
        UmbrellaQueue wide = Check.queue(5, 5, 5, 5, 5);
        int[] due = {3, 4, 5, 4, 3};
        for (int place = 0; place < 5; place++) {
            Check.due("17: of five wide ones over " + place, wide.person(place, 7), due[place]);
        }
        wide.leave(4);
        wide.leave(3);
        for (int place = 0; place < 3; place++) {
            Check.due("17: of three wide ones over " + place, wide.person(place, 7), 3);
        }
    }

    // ---- 18 placeOf

    private static void placeOfTheEndsOfItsRange() {
        UmbrellaQueue empty = new UmbrellaQueue();
        UmbrellaQueue full = Check.fullQueue();
        for (int number : new int[] {-1, 200, 201, -5, MIN, MAX}) {
            Check.due("18: placeOf(" + number + "), nobody there", empty.placeOf(number), -2);
            Check.due("18: placeOf(" + number + ") of 16", full.placeOf(number), -2);
        }
        for (int number : new int[] {0, 1, 15, 16, 198, 199}) {
            Check.due("18: placeOf(" + number + "), nobody there", empty.placeOf(number), -5);
            Check.due("18: placeOf(" + number + ") of 16", full.placeOf(number), number < 16 ? number : -5);
        }
        full.serve();
        full.letAhead(12);
        for (int number = 0; number < 16; number++) {
            int due = number < 2 ? -5 : number == 14 ? 13 : number == 15 ? 12 : number - 2;
            Check.due("18: placeOf(" + number + ") behind the counter", full.placeOf(number), due);
        }
    }

    // ---- 19 ifGust

    private static void ifGustBeyondItsRanges() {
        for (int people : new int[] {0, 1, 16}) {
            UmbrellaQueue x = Check.queue(new int[people]);
            for (int place : new int[] {-1, people, 16, MIN, MAX}) {
                Check.due("19: place " + place + " of " + people, x.ifGust(place, 5, 0, 0), -1);
                Check.due("19: it is ahead of the drops", x.ifGust(place, 0, 0, 0), -1);
                Check.due("19: it is ahead of the side", x.ifGust(place, 5, 3, 0), -1);
                Check.due("19: it is ahead of what", x.ifGust(place, 5, 0, 4), -1);
            }
        }
        UmbrellaQueue x = Check.queue(1, 0);
        for (int what = 0; what <= 3; what++) {
            for (int drops : BEYOND_GUSTS) {
                Check.due("19: drops " + drops, x.ifGust(1, drops, 0, what), -2);
            }
            for (int side : BEYOND_SIDES) {
                Check.due("19: side " + side, x.ifGust(1, 5, side, what), -2);
            }
        }
        for (int what : new int[] {-1, 4, 5, MIN, MAX}) {
            for (int side = 0; side <= 2; side++) {
                Check.due("19: what " + what, x.ifGust(0, 5, side, what), -2);
                Check.due("19: what " + what, x.ifGust(1, 5, side, what), -2);
            }
        }
    }

    private static void ifGustAtTheEndsOfItsRanges() {
        UmbrellaQueue x = Check.queue(0, 2, 0);
        // The umbrella reaches 0 and 1; the water runs onto 2.
        int[][] covered = {{1, 1, 0}, {1, 1, 1}, {1, 1, 0}};
        for (int side = 0; side <= 2; side++) {
            for (int place = 0; place < 3; place++) {
                for (int drops : new int[] {1, 99}) {
                    String call = "19: place " + place + ", drops " + drops + ", side " + side;
                    int wet = (covered[side][place] == 1 ? 0 : drops) + (place == 2 ? drops / 2 : 0);
                    Check.due(call + ": covered", x.ifGust(place, drops, side, 0), covered[side][place]);
                    Check.due(call + ": umbrellas", x.ifGust(place, drops, side, 1), place == 2 ? 1 : 0);
                    Check.due(call + ": wetness", x.ifGust(place, drops, side, 2), wet);
                    Check.due(call + ": leaves", x.ifGust(place, drops, side, 3), 0);
                }
            }
        }
        UmbrellaQueue two = Check.queue(1, 0, 1, 5);
        int[] umbrellas = {1, 1, 0, 1};
        for (int place = 0; place < 4; place++) {
            // The widest one reaches 1 to 3: its water runs onto 0.
            Check.due("19: umbrellas beside " + place, two.ifGust(place, 9, 0, 1), umbrellas[place] + (place == 1 ? 1 : 0));
        }
    }

    private static void ifGustIsWhatTheGustDoes() {
        int[][] rows = {{0, 3, 0, 0, 1, 0, 5, 0, 0, 2, 0, 0, 0, 4, 0, 0}, {2, 2, 0, 0, 0, 3}, {0}, {5}, {0, 0, 0, 1}};
        for (int[] widths : rows) {
            for (int side = 0; side <= 2; side++) {
                UmbrellaQueue x = new UmbrellaQueue();
                for (int i = 0; i < widths.length; i++) {
                    x.come(50 + i, 0, widths[i]);
                }
                x.gust(20, side);
                int people = x.count(0);
                int[] wet = new int[people];
                int[] number = new int[people];
                int leaving = 0;
                for (int place = 0; place < people; place++) {
                    wet[place] = x.ifGust(place, 33, side, 2);
                    number[place] = x.ifGust(place, 33, side, 3) == 1 ? -1 : x.person(place, 0);
                    leaving += number[place] < 0 ? 1 : 0;
                }
                Check.due("19: how many leave", x.gust(33, side), leaving);
                for (int place = 0; place < people; place++) {
                    if (number[place] >= 0) {
                        Check.due("19: wetness", x.person(x.placeOf(number[place]), 1), wet[place]);
                    }
                }
            }
        }
    }

    private static void ifGustByPatience() {
        int[][] rows = {{10, 10, 0}, {10, 11, 1}, {98, 98, 0}, {98, 99, 1}, {99, 99, 0}, {999, 99, 0}};
        for (int[] row : rows) {
            UmbrellaQueue x = new UmbrellaQueue();
            x.come(row[0], 0, 0);
            String call = "19: patience " + row[0] + ", drops " + row[1];
            Check.due(call, x.ifGust(0, row[1], 0, 3), row[2]);
            Check.due(call + ": wetness", x.ifGust(0, row[1], 0, 2), row[1]);
            Check.due(call + ": who would leave is there", x.count(0), 1);
        }
        UmbrellaQueue x = new UmbrellaQueue();
        x.come(998, 0, 0);
        x.come(999, 0, 0);
        for (int i = 0; i < 10; i++) {
            x.gust(99, 0);
        }
        x.gust(8, 0);
        Check.due("19: 998", x.person(0, 1), 998);
        Check.due("19: it would be 999", x.ifGust(0, 99, 0, 2), 999);
        Check.due("19: that is above 998", x.ifGust(0, 1, 0, 3), 1);
        Check.due("19: it is not above 999", x.ifGust(1, 99, 0, 3), 0);
    }

    // ---- 20 reason

    private static void reasonBeyondItsRange() {
        for (int people : new int[] {0, 1, 2, 16}) {
            int[] widths = new int[people];
            for (int i = 0; i < people; i++) {
                widths[i] = i % 2 + 1;
            }
            UmbrellaQueue x = Check.queue(widths);
            for (int place : new int[] {-1, people - 1, people, people + 1, 16, MIN, MAX}) {
                Check.due("20: reason(" + place + ") of " + people, x.reason(place), -1);
            }
            for (int place = 0; place < people - 1; place++) {
                Check.due("20: reason(" + place + ") of " + people, x.reason(place), 0);
            }
        }
    }

    // ---- 21 bestSwap

    private static void bestSwapBeyondItsRanges() {
        UmbrellaQueue empty = new UmbrellaQueue();
        UmbrellaQueue some = Check.queue(0, 1, 2);
        for (int drops : BEYOND_GUSTS) {
            Check.due("21: drops " + drops + ", nobody there", empty.bestSwap(drops, 0), -2);
            Check.due("21: drops " + drops, some.bestSwap(drops, 0), -2);
        }
        for (int side : BEYOND_SIDES) {
            Check.due("21: side " + side + ", nobody there", empty.bestSwap(5, side), -2);
            Check.due("21: side " + side, some.bestSwap(5, side), -2);
        }
    }

    private static void bestSwapWhereThereIsNone() {
        for (int side = 0; side <= 2; side++) {
            for (int drops : new int[] {1, 99}) {
                Check.due("21: nobody there", new UmbrellaQueue().bestSwap(drops, side), -5);
                Check.due("21: one alone", Check.queue(0).bestSwap(drops, side), -5);
                Check.due("21: one alone", Check.queue(5).bestSwap(drops, side), -5);
                Check.due("21: the reason 1", Check.fullQueue().bestSwap(drops, side), -5);
                Check.due("21: the reason 2", Check.queue(0, 1, 0, 5, 0).bestSwap(drops, side), -5);
                Check.due("21: no drier than without", Check.queue(4, 5).bestSwap(drops, side), -5);
            }
        }
        // The only swap that would help is refused, as who would get the narrower one is the wetter one.
        UmbrellaQueue dry = Check.queue(0, 1, 2);
        Check.due("21: it helps if it is not refused", dry.bestSwap(1, 0), 1);
        UmbrellaQueue wet = wetHolder();
        Check.due("21: the reason is 3", wet.reason(1), 3);
        Check.due("21: the reason 3", wet.bestSwap(1, 0), -5);
        wet.pass(9);
        Check.due("21: dry, it is the best one", wet.bestSwap(1, 0), 1);
    }

    /** The widths 0, 1, 2; the last one is wet by 1, all others are dry. */
    private static UmbrellaQueue wetHolder() {
        UmbrellaQueue x = Check.queue(2, 1);
        x.gust(2, 0);
        x.leave(1);
        Check.due("21: wet by the neighbour's", x.person(0, 1), 1);
        x.come(999, 0, 1);
        x.letAhead(0);
        x.come(999, 0, 0);
        x.letAhead(1);
        x.letAhead(0);
        Check.due("21: widths", x.person(0, 4) * 100 + x.person(1, 4) * 10 + x.person(2, 4), 12);
        return x;
    }

    private static void bestSwapOfSeveral() {
        // Two bare places 0 and 4, each beside the widths 1, 2; either swap covers one of them.
        Check.due("21: the lower place of two", Check.queue(0, 1, 2, 2, 0, 1, 2).bestSwap(1, 0), 1);
        Check.due("21: the later one is the only one", Check.queue(0, 1, 1, 1, 0, 1, 2).bestSwap(1, 0), 5);
        UmbrellaQueue x = Check.queue(0, 1, 2);
        Check.due("21: the least gust", x.bestSwap(1, 0), 1);
        Check.due("21: the greatest gust", x.bestSwap(99, 0), 1);
        Check.due("21: straight and from ahead", x.bestSwap(99, 1), 1);
        Check.due("21: from behind all are covered, but for the water", x.bestSwap(99, 2), 1);
        Check.due("21: from behind, without water", x.bestSwap(1, 2), -5);
        Check.due("21: no swap was made", x.count(7) * 1000 + x.person(1, 4) * 10 + x.person(2, 4), 12);
    }

    /** A bare place behind which the widths 1 and 2 stand, anywhere among umbrellas of the width 1. */
    private static void bestSwapAtEachPlace() {
        for (int people = 3; people <= 16; people++) {
            for (int bare = 0; bare + 2 < people; bare++) {
                int[] widths = new int[people];
                for (int i = 0; i < people; i++) {
                    widths[i] = i == bare ? 0 : i == bare + 2 ? 2 : 1;
                }
                UmbrellaQueue x = Check.queue(widths);
                Check.due("21: bare at " + bare + " of " + people, x.bestSwap(1, 0), bare + 1);
                int before = x.count(12);
                Check.due("21: it is not refused", x.swap(bare + 1), 2);
                Check.due("21: a place more is reached", x.count(12), before - 1);
                Check.due("21: none is better", x.bestSwap(1, 0), -5);
            }
        }
    }

    // ---- 22 payer

    private static void payerBeyondItsRange() {
        UmbrellaQueue empty = new UmbrellaQueue();
        UmbrellaQueue full = Check.fullQueue();
        for (int what : new int[] {-1, 2, 3, MIN, MAX}) {
            Check.due("22: payer(" + what + "), nobody there", empty.payer(what), -2);
            Check.due("22: payer(" + what + ")", full.payer(what), -2);
        }
        for (int what = 0; what <= 1; what++) {
            Check.due("22: payer(" + what + "), nobody there", empty.payer(what), -5);
            Check.due("22: payer(" + what + ")", full.payer(what), what == 0 ? 0 : 10);
        }
        full.serve();
        Check.due("22: nothing is recorded by payer()", full.count(16), 4);
    }

    private static void payerIsWhatServeDoes() {
        for (int people = 1; people <= 5; people++) {
            for (int setting = 1; setting <= 4; setting++) {
                for (int fare : new int[] {0, 1, 5, 99}) {
                    UmbrellaQueue x = new UmbrellaQueue();
                    for (int i = 0; i < people; i++) {
                        x.come(999, 40 * i, i % 2);
                        x.gust(3, 0);
                    }
                    x.set(1, setting);
                    x.set(2, fare);
                    int coins = x.person(x.payer(0), 3);
                    int all = Math.min(people, setting) * fare;
                    int paid = x.payer(1);
                    Check.due("22: payer(1)", paid, Math.min(coins, all));
                    Check.due("22: serve()", x.serve(), paid);
                    Check.due("22: count(5)", x.count(5), paid);
                    Check.due("22: count(6)", x.count(6), all - paid);
                }
            }
        }
    }

    // ---- 23 bears

    private static void bearsBeyondItsRanges() {
        for (int people : new int[] {0, 1, 16}) {
            UmbrellaQueue x = Check.queue(new int[people]);
            for (int place : new int[] {-1, people, 16, MIN, MAX}) {
                Check.due("23: place " + place + " of " + people, x.bears(place, 5), -1);
                Check.due("23: it is ahead of the drops", x.bears(place, 0), -1);
                Check.due("23: it is ahead of the drops", x.bears(place, 100), -1);
            }
            for (int place = 0; place < people; place++) {
                for (int drops : BEYOND_GUSTS) {
                    Check.due("23: drops " + drops + " of " + people, x.bears(place, drops), -2);
                }
            }
        }
    }

    private static void bearsJustSoMany() {
        // the patience, the drops, how many gusts
        int[][] rows = {{10, 1, 10}, {10, 10, 1}, {10, 11, 0}, {10, 99, 0}, {10, 5, 2}, {10, 6, 1}, {99, 99, 1},
            {98, 99, 0}, {198, 99, 2}, {197, 99, 1}, {998, 1, 998}, {998, 99, 10}, {998, 2, 499}, {998, 3, 332},
            {999, 1, -5}, {999, 99, -5}};
        for (int[] row : rows) {
            UmbrellaQueue x = new UmbrellaQueue();
            x.come(row[0], 0, 0);
            Check.due("23: patience " + row[0] + ", drops " + row[1], x.bears(0, row[1]), row[2]);
        }
        UmbrellaQueue wet = new UmbrellaQueue();
        wet.come(30, 0, 0);
        for (int left = 3; left >= 0; left--) {
            Check.due("23: bears(0, 10)", wet.bears(0, 10), left);
            Check.due("23: gust(10, 1)", wet.gust(10, 1), left == 0 ? 1 : 0);
        }
        UmbrellaQueue full = Check.fullQueue();
        full.leave(15);
        full.come(100, 0, 0);
        Check.due("23: at the last place, with water", full.bears(15, 20), 3);
    }

    private static void bearsWithoutEnd() {
        Check.due("23: under the own umbrella", Check.queue(1).bears(0, 99), -5);
        Check.due("23: under another one's", Check.queue(0, 2).bears(0, 99), -5);
        Check.due("23: under two", Check.queue(0, 2, 5).bears(0, 99), -5);
        UmbrellaQueue x = new UmbrellaQueue();
        x.come(10, 0, 1);
        x.come(10, 0, 1);
        Check.due("23: water of 1 drop is none", x.bears(0, 1), -5);
        Check.due("23: water of 2 drops", x.bears(0, 2), 10);
        Check.due("23: water of 3 drops", x.bears(1, 3), 10);
        Check.due("23: water of 99 drops", x.bears(1, 99), 0);
        Check.due("23: a patience of 999 and water", Check.queue(1, 1).bears(0, 99), -5);
        Check.due("23: nobody has left", x.count(0) * 10 + x.count(8), 20);
    }

    private static void bearsIsWhatGustsDo() {
        for (int drops : new int[] {1, 2, 7, 50, 99}) {
            UmbrellaQueue x = new UmbrellaQueue();
            x.come(999, 0, 3);
            x.come(999, 0, 0);
            x.come(90, 0, 0);
            x.come(999, 0, 2);
            x.gust(10, 2);
            x.pass(1);
            int bears = x.bears(2, drops);
            if (x.ifGust(2, drops, 0, 2) == x.person(2, 1)) {
                Check.due("23: without end", bears, -5);
                continue;
            }
            for (int i = 0; i < bears; i++) {
                Check.due("23: it bears one more", x.gust(drops, 0), 0);
            }
            Check.due("23: it leaves", x.gust(drops, 0), 1);
            Check.due("23: it has left", x.placeOf(2), -5);
        }
    }

    // ---- 24 count

    private static void countBeyondItsRange() {
        UmbrellaQueue empty = new UmbrellaQueue();
        UmbrellaQueue full = Check.fullQueue();
        for (int what : new int[] {-1, 18, 19, -5, 100, MIN, MAX}) {
            Check.due("24: count(" + what + ")", empty.count(what), -2);
            Check.due("24: count(" + what + ")", full.count(what), -2);
        }
        int[] due = {16, 16, 0, 0, 0, 0, 0, 0, 0, 0, 0, 0, 0, 3, 2, 5, 4, 0};
        for (int what = 0; what <= 17; what++) {
            Check.due("24: count(" + what + ") of 16", full.count(what), due[what]);
        }
    }

    private static void countOfTheWettest() {
        UmbrellaQueue x = new UmbrellaQueue();
        Check.due("24: nobody there", x.count(11), -5);
        x.come(999, 0, 0);
        Check.due("24: one dry one", x.count(11), 0);
        for (int i = 1; i < 16; i++) {
            x.come(999, 0, 0);
        }
        Check.due("24: sixteen dry ones", x.count(11), 0);
        x.gust(5, 0);
        Check.due("24: sixteen who are as wet", x.count(11), 0);
        x.leave(0);
        x.come(999, 0, 0);
        x.letAhead(14);
        Check.due("24: the first of the wet ones", x.count(11), 0);
        Check.due("24: the wetness of all", x.count(10), 75);
        for (int place = 13; place >= 0; place--) {
            x.letAhead(place);
        }
        Check.due("24: the dry one is the first", x.count(11), 1);
        x.pass(2);
        Check.due("24: nobody is wet", x.count(10), 0);
        Check.due("24: the first of the dry ones", x.count(11), 0);
        for (int i = 0; i < 11; i++) {
            x.gust(99, 0);
        }
        Check.due("24: all are as wet as can be", x.count(10), 16 * 999);
        UmbrellaQueue last = Check.queue(1, 1, 1, 0);
        last.gust(2, 0);
        Check.due("24: the last one", last.count(11), 3);
        UmbrellaQueue left = Check.queue(0);
        left.leave(0);
        Check.due("24: nobody there any more", left.count(11), -5);
    }

    private static void countOfPlacesThatNoUmbrellaReaches() {
        Check.due("24: nobody there", new UmbrellaQueue().count(12), 0);
        Check.due("24: sixteen bare places", Check.queue(new int[16]).count(12), 16);
        Check.due("24: none of sixteen", Check.fullQueue().count(12), 0);
        Check.due("24: none of five", Check.queue(0, 0, 5, 0, 0).count(12), 0);
        Check.due("24: one of five", Check.queue(0, 0, 4, 0, 0).count(12), 1);
        Check.due("24: three of five", Check.queue(5, 0, 0, 0, 0).count(12), 2);
        UmbrellaQueue x = Check.queue(0, 0, 5);
        x.leave(2);
        Check.due("24: its umbrella is gone with it", x.count(12), 2);
    }

    private static void accountsAddUp() {
        UmbrellaQueue x = new UmbrellaQueue();
        int fares = 0;
        for (int i = 0; i < 60; i++) {
            x.come(20 + i, i % 7 * 3, i % 4 == 0 ? 0 : i % 6);
            x.come(15 + i, i % 5 * 4, 0);
            x.gust(1 + i * 7 % 99, i % 3);
            if (i % 4 == 1) {
                x.leave(0);
            }
            if (i % 3 == 2) {
                int before = x.count(4);
                x.serve();
                fares += (x.count(4) - before) * 5;
            }
            Check.due("24: all who came", x.count(0) + x.count(2) + x.count(3) + x.count(4), x.count(1));
            Check.due("24: all fares", x.count(5) + x.count(6), fares);
        }
        Check.holds("24: each way out was taken", x.count(2) > 0 && x.count(3) > 0 && x.count(4) > 0);
        Check.holds("24: fares were paid and were not", x.count(5) > 0 && x.count(6) > 0);
    }
}
