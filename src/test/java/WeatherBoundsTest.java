/** Promises 7 to 9 at the ends of their ranges and just beyond them, in empty queues and in full ones. */
public final class WeatherBoundsTest {
    private static final int MIN = Integer.MIN_VALUE;
    private static final int MAX = Integer.MAX_VALUE;
    private static final int[] REACH_AHEAD = {0, 0, 1, 1, 2, 2};
    private static final int[] REACH_BEHIND = {0, 0, 0, 1, 1, 2};

    public static void main(String[] args) {
        gustAtTheEndsOfItsRanges();
        gustBeyondItsRanges();
        gustWhereNobodyIs();
        gustOnOneUmbrellaAtEachPlace();
        gustWithoutAnyUmbrella();
        waterIsHalfOfTheDropsRoundedDown();
        waterOfSeveralUmbrellasAddsUp();
        waterFromWhateverSide();
        nobodyIsWetterThan999();
        whoIsAbovePatienceLeaves();
        whoLeavesShedsWaterStill();
        theGreatestPlacesAndTheLeastLeave();
        passAtTheEndsOfItsRange();
        passBeyondItsRange();
        passDriesDownToZero();
        passUpTo99999Minutes();
        passBehindUndo();
        serveAsManyAsTheSettingTells();
        serveWithTheEndsOfTheFare();
        serveWithJustEnoughCoins();
        serveByTheDriestOfTheFirst();
        serveUntilNobodyIsThere();
        Check.end();
    }

    private static void dueWetness(String call, UmbrellaQueue x, int... wetness) {
        Check.due(call + ": people", x.count(0), wetness.length);
        for (int place = 0; place < wetness.length; place++) {
            Check.due(call + ": wetness at " + place, x.person(place, 1), wetness[place]);
        }
    }

    // ---- 7 gust

    private static void gustAtTheEndsOfItsRanges() {
        for (int drops : new int[] {1, 2, 98, 99}) {
            for (int side = 0; side <= 2; side++) {
                UmbrellaQueue x = Check.queue(0);
                Check.due("7: gust(" + drops + ", " + side + ")", x.gust(drops, side), 0);
                dueWetness("7: gust(" + drops + ", " + side + ")", x, drops);
                Check.due("7: count(8)", x.count(8), 1);
                Check.due("7: an act, though nobody leaves", x.count(16), 2);
            }
        }
    }

    private static void gustBeyondItsRanges() {
        int[][] bad = {{0, 0}, {0, 1}, {0, 2}, {100, 0}, {100, 2}, {-1, 0}, {MIN, 0}, {MAX, 0}, {1, -1}, {1, 3},
            {99, -1}, {99, 3}, {1, MIN}, {1, MAX}, {0, 3}, {100, -1}};
        UmbrellaQueue empty = new UmbrellaQueue();
        UmbrellaQueue full = Check.fullQueue();
        for (int[] one : bad) {
            String call = "7: gust(" + one[0] + ", " + one[1] + ")";
            Check.due(call + " is ahead of nobody there", empty.gust(one[0], one[1]), -2);
            Check.due(call, full.gust(one[0], one[1]), -2);
        }
        Check.due("7: no gust", full.count(8) + empty.count(8), 0);
        Check.due("7: nobody gets wet", full.count(10), 0);
        Check.due("7: nothing is recorded", empty.count(16), 0);
    }

    private static void gustWhereNobodyIs() {
        UmbrellaQueue x = new UmbrellaQueue();
        for (int side = 0; side <= 2; side++) {
            Check.due("7: gust(1, " + side + ")", x.gust(1, side), -5);
            Check.due("7: gust(99, " + side + ")", x.gust(99, side), -5);
        }
        Check.due("7: no gust", x.count(8), 0);
        Check.due("7: nothing is recorded", x.count(16), 0);
        x.come(10, 0, 0);
        Check.due("7: all leave", x.gust(11, 0), 1);
        Check.due("7: nobody is there any more", x.gust(11, 0), -5);
        Check.due("7: one gust", x.count(8), 1);
    }

    /** One umbrella of each width at each place of queues of some lengths; a gust from each side. */
    private static void gustOnOneUmbrellaAtEachPlace() {
        for (int people : new int[] {1, 2, 3, 7, 16}) {
            for (int width = 1; width <= 5; width++) {
                for (int holder = 0; holder < people; holder++) {
                    for (int side = 0; side <= 2; side++) {
                        dueBelowOneUmbrella(people, width, holder, side);
                    }
                }
            }
        }
    }

    private static void dueBelowOneUmbrella(int people, int width, int holder, int side) {
        int[] widths = new int[people];
        widths[holder] = width;
        UmbrellaQueue x = Check.queue(widths);
        Check.due("7: gust(20, " + side + ")", x.gust(20, side), 0);
        int least = holder - REACH_AHEAD[width];
        int greatest = holder + REACH_BEHIND[width];
        int[] due = new int[people];
        for (int place = 0; place < people; place++) {
            boolean below = place >= least && place <= greatest;
            boolean besides = side == 1 && place == greatest + 1 || side == 2 && place == least - 1;
            due[place] = below || besides ? 0 : 20;
            due[place] += place == least - 1 || place == greatest + 1 ? 10 : 0;
        }
        dueWetness("7: width " + width + " at " + holder + ", side " + side, x, due);
    }

    private static void gustWithoutAnyUmbrella() {
        for (int side = 0; side <= 2; side++) {
            UmbrellaQueue x = Check.queue(0, 0, 0);
            x.gust(99, side);
            dueWetness("7: no umbrella, side " + side, x, 99, 99, 99);
        }
        UmbrellaQueue all = Check.fullQueue();
        for (int side = 0; side <= 2; side++) {
            all.gust(1, side);
        }
        Check.due("7: all under their own", all.count(10), 0);
    }

    private static void waterIsHalfOfTheDropsRoundedDown() {
        int[] drops = {1, 2, 3, 4, 5, 97, 98, 99};
        int[] half = {0, 1, 1, 2, 2, 48, 49, 49};
        for (int i = 0; i < drops.length; i++) {
            UmbrellaQueue covered = Check.queue(1, 1);
            covered.gust(drops[i], 0);
            dueWetness("7: half of " + drops[i], covered, half[i], half[i]);
            UmbrellaQueue bare = Check.queue(1, 0);
            bare.gust(drops[i], 0);
            dueWetness("7: half of " + drops[i] + " and all", bare, 0, drops[i] + half[i]);
        }
    }

    private static void waterOfSeveralUmbrellasAddsUp() {
        UmbrellaQueue two = Check.queue(1, 0, 1);
        two.gust(11, 0);
        dueWetness("7: two onto one place", two, 0, 21, 0);
        // Widths 2, 1, 1, 3 at the places 0, 2, 3, 5: they reach 0, 2, 3, 4 to 6.
        UmbrellaQueue x = Check.queue(2, 0, 1, 1, 0, 3, 0, 0);
        x.gust(10, 0);
        dueWetness("7: several", x, 0, 20, 5, 10, 5, 0, 0, 15);
        // Widths 5 and 5 at the ends of five places: the water of both runs off at the other one's end.
        UmbrellaQueue wide = Check.queue(5, 0, 0, 0, 5);
        wide.gust(8, 0);
        dueWetness("7: wide ones", wide, 0, 4, 0, 4, 0);
        // Widths 5, 5, 5 in the middle of seven: they reach 0 to 4, 1 to 5, 2 to 6.
        UmbrellaQueue all = Check.queue(0, 0, 5, 5, 5, 0, 0);
        all.gust(98, 0);
        dueWetness("7: three wide ones", all, 49, 49, 0, 0, 0, 49, 49);
    }

    private static void waterFromWhateverSide() {
        for (int side = 0; side <= 2; side++) {
            UmbrellaQueue x = Check.queue(0, 1, 0);
            x.gust(20, side);
            dueWetness("7: side " + side, x, side == 2 ? 10 : 30, 0, side == 1 ? 10 : 30);
        }
    }

    /** One person without an umbrella who is so wet. */
    private static UmbrellaQueue wetOne(int patience, int wetness) {
        UmbrellaQueue x = new UmbrellaQueue();
        x.come(patience, 7, 0);
        for (int left = wetness; left > 0; left -= 99) {
            x.gust(Math.min(99, left), 0);
        }
        return x;
    }

    private static void nobodyIsWetterThan999() {
        int[][] rows = {{998, 1, 999}, {998, 2, 999}, {998, 99, 999}, {999, 1, 999}, {999, 99, 999}, {900, 98, 998},
            {900, 99, 999}, {901, 99, 999}, {997, 1, 998}};
        for (int[] row : rows) {
            UmbrellaQueue x = wetOne(999, row[0]);
            dueWetness("7: so wet at first", x, row[0]);
            Check.due("7: who has a patience of 999 stays", x.gust(row[1], 0), 0);
            dueWetness("7: " + row[0] + " and " + row[1], x, row[2]);
        }
        // Water from both sides and all drops: 99 + 49 + 49.
        UmbrellaQueue both = wetOne(999, 900);
        both.come(999, 0, 1);
        both.letAhead(0);
        both.come(999, 0, 1);
        both.gust(99, 0);
        dueWetness("7: by all at once", both, 0, 999, 0);
    }

    private static void whoIsAbovePatienceLeaves() {
        // the patience, the wetness before, the drops, whether the person leaves
        int[][] rows = {{10, 0, 10, 0}, {10, 0, 11, 1}, {10, 9, 1, 0}, {10, 10, 1, 1}, {99, 0, 99, 0}, {98, 0, 99, 1},
            {500, 450, 50, 0}, {500, 450, 51, 1}, {998, 900, 98, 0}, {998, 900, 99, 1}, {998, 998, 1, 1},
            {998, 998, 99, 1}, {999, 998, 1, 0}, {999, 999, 99, 0}};
        for (int[] row : rows) {
            UmbrellaQueue x = wetOne(row[0], row[1]);
            String call = "7: patience " + row[0] + ", wetness " + row[1] + ", drops " + row[2];
            dueWetness(call, x, row[1]);
            Check.due(call + ": whether it would leave", x.ifGust(0, row[2], 0, 3), row[3]);
            Check.due(call, x.gust(row[2], 0), row[3]);
            Check.due(call + ": count(0)", x.count(0), 1 - row[3]);
            Check.due(call + ": count(3)", x.count(3), row[3]);
            Check.due(call + ": count(2)", x.count(2), 0);
        }
    }

    /** All get wet by the queue as it was; then those who are too wet leave. */
    private static void whoLeavesShedsWaterStill() {
        UmbrellaQueue x = new UmbrellaQueue();
        x.come(10, 0, 1);
        x.come(999, 0, 1);
        Check.due("7: gust(40, 0)", x.gust(40, 0), 1);
        dueWetness("7: water of who leaves", x, 20);
        Check.due("7: who stays", x.person(0, 0), 1);
        // The umbrella at 1 reaches 0 to 2, the one at 3 from 2 on: its water runs onto the one who leaves.
        UmbrellaQueue y = new UmbrellaQueue();
        y.come(999, 0, 0);
        y.come(10, 0, 3);
        y.come(999, 0, 0);
        y.come(999, 0, 3);
        Check.due("7: gust(40, 0)", y.gust(40, 0), 1);
        dueWetness("7: its umbrella keeps others dry still", y, 0, 0, 20);
        Check.due("7: gust(40, 0)", y.gust(40, 0), 0);
        dueWetness("7: but not in the next gust", y, 60, 0, 20);
    }

    private static void theGreatestPlacesAndTheLeastLeave() {
        // People without umbrellas, some of a patience of 10; a gust of 11 drops.
        boolean[][] rows = {{true}, {true, false}, {false, true}, {true, true}, {true, false, true},
            {false, true, true, false, true, true, false, true, true, true, false, false, true, false, false, true},
            {true, true, true, false, false, false, false, false, false, false, false, false, false, true, true, true}};
        for (boolean[] leaves : rows) {
            UmbrellaQueue x = new UmbrellaQueue();
            int leaving = 0;
            for (boolean one : leaves) {
                x.come(one ? 10 : 11, 0, 0);
                leaving += one ? 1 : 0;
            }
            Check.due("7: how many leave", x.gust(11, 0), leaving);
            Check.due("7: count(3)", x.count(3), leaving);
            Check.due("7: count(0)", x.count(0), leaves.length - leaving);
            int place = 0;
            for (int number = 0; number < leaves.length; number++) {
                Check.due("7: placeOf(" + number + ")", x.placeOf(number), leaves[number] ? -5 : place);
                place += leaves[number] ? 0 : 1;
            }
        }
    }

    // ---- 8 pass

    private static void passAtTheEndsOfItsRange() {
        for (int minutes : new int[] {1, 2, 98, 99}) {
            UmbrellaQueue x = new UmbrellaQueue();
            Check.due("8: pass(" + minutes + ") with nobody there", x.pass(minutes), 0);
            Check.due("8: count(9)", x.count(9), minutes);
            Check.due("8: it is an act all the same", x.count(16), 1);
            UmbrellaQueue full = Check.fullQueue();
            Check.due("8: pass(" + minutes + ") of 16", full.pass(minutes), 16);
            full.set(0, 1);
            full.gust(4, 0);
            // The first and the last one have a neighbour's umbrella on one side alone.
            dueWetness("8: of 16", full, 2, 4, 4, 4, 4, 4, 4, 4, 4, 4, 4, 4, 4, 4, 4, 2);
            Check.due("8: pass(2) of 16", full.pass(2), 2);
            Check.due("8: pass(2) of 16", full.pass(2), 16);
        }
    }

    private static void passBeyondItsRange() {
        UmbrellaQueue x = wetOne(999, 50);
        int states = x.count(16);
        for (int minutes : new int[] {0, 100, -1, -99, 101, MIN, MAX}) {
            Check.due("8: pass(" + minutes + ")", x.pass(minutes), -2);
        }
        dueWetness("8: nobody gets drier", x, 50);
        Check.due("8: no minute", x.count(9), 0);
        Check.due("8: nothing is recorded", x.count(16), states);
    }

    private static void passDriesDownToZero() {
        // the setting 0, the wetness, the minutes, the wetness then
        int[][] rows = {{3, 3, 1, 0}, {3, 4, 1, 1}, {3, 2, 1, 0}, {3, 297, 99, 0}, {3, 298, 99, 1}, {3, 296, 99, 0},
            {0, 1, 99, 1}, {0, 999, 99, 999}, {50, 50, 1, 0}, {50, 51, 1, 1}, {50, 49, 1, 0}, {50, 999, 19, 49},
            {50, 999, 20, 0}, {50, 999, 99, 0}, {1, 99, 99, 0}, {1, 100, 99, 1}, {1, 1, 1, 0}};
        for (int[] row : rows) {
            UmbrellaQueue x = wetOne(999, row[1]);
            x.set(0, row[0]);
            String call = "8: setting " + row[0] + ", wetness " + row[1] + ", minutes " + row[2];
            Check.due(call, x.pass(row[2]), row[3] == 0 ? 1 : 0);
            dueWetness(call, x, row[3]);
        }
    }

    private static void passUpTo99999Minutes() {
        UmbrellaQueue x = Check.queue(0);
        Check.passMinutes(x, 99900);
        Check.due("8: 99900 minutes", x.count(9), 99900);
        Check.due("8: pass(99)", x.pass(99), 1);
        Check.due("8: count(9)", x.count(9), 99999);
        Check.due("8: pass(1)", x.pass(1), -3);
        Check.due("8: pass(99)", x.pass(99), -3);
        Check.due("8: pass(0) is ahead", x.pass(0), -2);
        Check.due("8: pass(100) is ahead", x.pass(100), -2);
        Check.due("8: count(9)", x.count(9), 99999);
        Check.due("8: gusts still come", x.gust(5, 0), 0);
        UmbrellaQueue y = Check.queue(0);
        Check.passMinutes(y, 99901);
        y.gust(9, 0);
        Check.due("8: 99901 minutes", y.count(9), 99901);
        Check.due("8: pass(99)", y.pass(99), -3);
        dueWetness("8: nobody gets drier", y, 9);
        Check.due("8: count(9)", y.count(9), 99901);
        Check.due("8: pass(98)", y.pass(98), 1);
        Check.due("8: count(9)", y.count(9), 99999);
    }

    private static void passBehindUndo() {
        UmbrellaQueue x = new UmbrellaQueue();
        Check.passMinutes(x, 99999);
        Check.due("8: pass(1)", x.pass(1), -3);
        Check.due("8: undo()", x.undo(), 3);
        int left = 99999 - x.count(9);
        Check.holds("8: some minutes are undone", left > 0 && left <= 99);
        Check.due("8: they pass again", x.pass(left), 0);
        Check.due("8: and no more", x.pass(1), -3);
    }

    // ---- 9 serve

    private static void serveAsManyAsTheSettingTells() {
        for (int people = 1; people <= 16; people++) {
            for (int setting = 1; setting <= 4; setting++) {
                UmbrellaQueue x = new UmbrellaQueue();
                for (int i = 0; i < people; i++) {
                    x.come(100, 9000, 0);
                }
                x.set(1, setting);
                int served = Math.min(people, setting);
                Check.due("9: " + setting + " of " + people, x.serve(), served * 5);
                Check.due("9: count(0)", x.count(0), people - served);
                Check.due("9: count(4)", x.count(4), served);
                Check.due("9: count(5)", x.count(5), served * 5);
                Check.due("9: count(6)", x.count(6), 0);
                for (int place = 0; place < people - served; place++) {
                    Check.due("9: who stays", x.person(place, 0), place + served);
                }
            }
        }
    }

    private static void serveWithTheEndsOfTheFare() {
        for (int setting = 1; setting <= 4; setting++) {
            for (int fare : new int[] {0, 1, 98, 99}) {
                UmbrellaQueue x = new UmbrellaQueue();
                for (int i = 0; i < 4; i++) {
                    x.come(100, 9999, 0);
                }
                x.set(1, setting);
                x.set(2, fare);
                Check.due("9: the fare " + fare + " for " + setting, x.serve(), fare * setting);
                Check.due("9: count(5)", x.count(5), fare * setting);
                Check.due("9: count(0)", x.count(0), 4 - setting);
            }
        }
    }

    private static void serveWithJustEnoughCoins() {
        // the coins, what is paid of 10, what is not
        int[][] rows = {{0, 0, 10}, {1, 1, 9}, {9, 9, 1}, {10, 10, 0}, {11, 10, 0}, {9999, 10, 0}};
        for (int[] row : rows) {
            UmbrellaQueue x = new UmbrellaQueue();
            x.come(100, row[0], 0);
            x.come(100, 5000, 0);
            Check.due("9: payer(1) with " + row[0], x.payer(1), row[1]);
            Check.due("9: serve() with " + row[0], x.serve(), row[1]);
            Check.due("9: count(5)", x.count(5), row[1]);
            Check.due("9: count(6)", x.count(6), row[2]);
            Check.due("9: both leave all the same", x.count(0), 0);
            Check.due("9: it is an act", x.count(16), 3);
        }
        UmbrellaQueue poor = new UmbrellaQueue();
        for (int i = 0; i < 4; i++) {
            poor.come(100, 0, 0);
        }
        poor.set(1, 4);
        poor.set(2, 99);
        Check.due("9: nothing of 396", poor.serve(), 0);
        Check.due("9: count(6)", poor.count(6), 396);
    }

    private static void serveByTheDriestOfTheFirst() {
        // The wetness of five people, how many are served, who pays; coins are 10 times the number, and 10.
        int[][] rows = {{5, 4, 3, 2, 1, 1, 0}, {5, 4, 3, 2, 1, 2, 1}, {5, 4, 3, 2, 1, 3, 2}, {5, 4, 3, 2, 1, 4, 3},
            {1, 1, 1, 1, 0, 4, 0}, {2, 1, 1, 1, 0, 4, 1}, {2, 2, 1, 1, 0, 4, 2}, {2, 2, 2, 1, 0, 4, 3},
            {1, 2, 1, 1, 0, 4, 0}, {2, 1, 2, 1, 0, 4, 1}, {1, 2, 0, 0, 0, 2, 0}, {0, 0, 0, 0, 0, 4, 0}};
        for (int[] row : rows) {
            UmbrellaQueue x = fiveOfWetness(row);
            x.set(1, row[5]);
            x.set(2, 99);
            Check.due("9: who pays", x.payer(0), row[6]);
            Check.due("9: what is paid", x.serve(), Math.min(99 * row[5], 10 * row[6] + 10));
            Check.due("9: who stays", x.count(0), 5 - row[5]);
        }
    }

    /** Five people so wet, from 0 to 5, without umbrellas: the wetter ones come first, then all go to their places. */
    private static UmbrellaQueue fiveOfWetness(int[] wetness) {
        UmbrellaQueue x = new UmbrellaQueue();
        int[] numberOf = new int[5];
        int came = 0;
        for (int wet = 5; wet >= 0; wet--) {
            for (int i = 0; i < 5; i++) {
                if (wetness[i] == wet) {
                    x.come(999, 10 * i + 10, 0);
                    numberOf[i] = came;
                    came++;
                }
            }
            if (wet > 0 && came > 0) {
                x.gust(1, 0);
            }
        }
        for (int place = 0; place < 5; place++) {
            for (int at = x.placeOf(numberOf[place]); at > place; at--) {
                x.letAhead(at - 1);
            }
            Check.due("9: wetness at " + place, x.person(place, 1), wetness[place]);
            Check.due("9: coins at " + place, x.person(place, 3), 10 * place + 10);
        }
        return x;
    }

    private static void serveUntilNobodyIsThere() {
        UmbrellaQueue x = new UmbrellaQueue();
        Check.due("9: nobody was there yet", x.serve(), -5);
        x.come(100, 100, 0);
        x.come(100, 100, 0);
        x.come(100, 100, 0);
        Check.due("9: two", x.serve(), 10);
        Check.due("9: one", x.serve(), 5);
        int states = x.count(16);
        Check.due("9: nobody is there", x.serve(), -5);
        Check.due("9: nothing is recorded", x.count(16), states);
        Check.due("9: count(4)", x.count(4), 3);
        Check.due("9: count(5)", x.count(5), 15);
        Check.due("9: undo()", x.undo(), 3);
        Check.due("9: who was served last", x.person(0, 0), 2);
        Check.due("9: count(5)", x.count(5), 10);
    }
}
