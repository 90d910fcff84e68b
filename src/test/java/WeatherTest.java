/** Promises 7 to 9. */
public final class WeatherTest {
    public static void main(String[] args) {
        promise07GustThatIsWrong();
        promise07GustOnCoveredPlaces();
        promise07WaterThatRunsOff();
        promise07WhoAreTooWetLeave();
        promise08Pass();
        promise08ManyMinutes();
        promise09Serve();
        promise09TheDriestPays();
        Check.end();
    }

    private static void dueWetness(String call, UmbrellaQueue x, int... wetness) {
        Check.due(call + ": people", x.count(0), wetness.length);
        for (int place = 0; place < wetness.length; place++) {
            Check.due(call + ": wetness at " + place, x.person(place, 1), wetness[place]);
        }
    }

    private static void promise07GustThatIsWrong() {
        UmbrellaQueue x = new UmbrellaQueue();
        Check.due("7: gust(5, 0)", x.gust(5, 0), -5);
        Check.due("7: gust(0, 0), nobody there", x.gust(0, 0), -2);
        Check.due("7: count(8)", x.count(8), 0);
        x.come(100, 0, 0);
        Check.due("7: gust(0, 0)", x.gust(0, 0), -2);
        Check.due("7: gust(100, 0)", x.gust(100, 0), -2);
        Check.due("7: gust(5, -1)", x.gust(5, -1), -2);
        Check.due("7: gust(5, 3)", x.gust(5, 3), -2);
        Check.due("7: gust(MIN, MAX)", x.gust(Integer.MIN_VALUE, Integer.MAX_VALUE), -2);
        Check.due("7: count(8)", x.count(8), 0);
        Check.due("7: count(16)", x.count(16), 1);
        Check.due("7: gust(1, 0)", x.gust(1, 0), 0);
        Check.due("7: gust(99, 2)", x.gust(99, 2), 0);
        Check.due("7: count(8)", x.count(8), 2);
        Check.due("7: count(16)", x.count(16), 3);
    }

    /** One drop, so that no water runs off. */
    private static void promise07GustOnCoveredPlaces() {
        UmbrellaQueue x = Check.queue(0, 0, 0, 0, 4, 0, 0, 0, 0);
        x.gust(1, 0);
        dueWetness("7: straight", x, 1, 1, 0, 0, 0, 0, 1, 1, 1);
        x.gust(1, 1);
        dueWetness("7: from ahead", x, 2, 2, 0, 0, 0, 0, 1, 2, 2);
        x.gust(1, 2);
        dueWetness("7: from behind", x, 3, 2, 0, 0, 0, 0, 2, 3, 3);
        int[][] straight = {{1, 1, 1, 1, 1, 1, 1}, {1, 1, 1, 0, 1, 1, 1}, {1, 1, 0, 0, 1, 1, 1},
            {1, 1, 0, 0, 0, 1, 1}, {1, 0, 0, 0, 0, 1, 1}, {1, 0, 0, 0, 0, 0, 1}};
        for (int width = 0; width <= 5; width++) {
            UmbrellaQueue y = Check.queue(0, 0, 0, width, 0, 0, 0);
            y.gust(1, 0);
            dueWetness("7: width " + width, y, straight[width]);
        }
    }

    private static void promise07WaterThatRunsOff() {
        UmbrellaQueue x = Check.queue(0, 0, 3, 0, 0, 1, 0);
        x.gust(11, 0);
        dueWetness("7: onto the places beside", x, 16, 0, 0, 0, 21, 0, 16);
        x.gust(10, 1);
        dueWetness("7: onto covered ones, too", x, 31, 0, 0, 0, 31, 0, 21);
        UmbrellaQueue y = Check.queue(5, 1, 2);
        y.gust(99, 2);
        dueWetness("7: at the ends", y, 98, 0, 49);
        UmbrellaQueue full = Check.queue(1, 1, 0, 0, 0, 0, 0, 0, 0, 0, 0, 0, 0, 0, 0, 3);
        full.gust(4, 0);
        dueWetness("7: sixteen people", full, 2, 2, 6, 4, 4, 4, 4, 4, 4, 4, 4, 4, 4, 6, 0, 0);
        full.leave(15);
        full.gust(4, 1);
        dueWetness("7: without the last one", full, 4, 4, 8, 8, 8, 8, 8, 8, 8, 8, 8, 8, 8, 10, 4);
    }

    private static void promise07WhoAreTooWetLeave() {
        UmbrellaQueue x = new UmbrellaQueue();
        x.come(19, 0, 0);
        x.come(20, 0, 0);
        x.come(999, 0, 0);
        x.come(10, 0, 0);
        x.come(10, 0, 1);
        Check.due("7: gust(10, 0)", x.gust(10, 0), 1);
        dueWetness("7: one left", x, 10, 10, 10, 0);
        Check.due("7: gust(10, 1)", x.gust(10, 1), 1);
        Check.due("7: who stays", x.person(0, 0), 1);
        Check.due("7: count(2)", x.count(2), 0);
        Check.due("7: count(3)", x.count(3), 2);
        for (int i = 0; i < 14; i++) {
            x.gust(99, 0);
        }
        dueWetness("7: nobody is wetter than 999", x, 999, 0);
        Check.due("7: count(3)", x.count(3), 3);
        Check.due("7: count(8)", x.count(8), 16);
        UmbrellaQueue all = new UmbrellaQueue();
        for (int i = 0; i < 16; i++) {
            all.come(10, 0, 0);
        }
        Check.due("7: all leave", all.gust(99, 0), 16);
        Check.due("7: nobody is there", all.count(0), 0);
        Check.due("7: count(3)", all.count(3), 16);
        all.undo();
        Check.due("7: undone", all.count(0), 16);
        Check.due("7: undone", all.count(3), 0);
        Check.due("7: undone", all.count(8), 0);
    }

    private static void promise08Pass() {
        UmbrellaQueue x = new UmbrellaQueue();
        Check.due("8: pass(1), nobody there", x.pass(1), 0);
        Check.due("8: count(9)", x.count(9), 1);
        Check.due("8: pass(0)", x.pass(0), -2);
        Check.due("8: pass(100)", x.pass(100), -2);
        Check.due("8: pass(MIN)", x.pass(Integer.MIN_VALUE), -2);
        Check.due("8: pass(MAX)", x.pass(Integer.MAX_VALUE), -2);
        x.come(999, 0, 0);
        x.gust(10, 0);
        x.come(999, 0, 0);
        x.come(999, 0, 1);
        x.gust(20, 0);
        dueWetness("8: wet ones", x, 30, 30, 0);
        x.leave(0);
        x.gust(1, 0);
        dueWetness("8: wet ones", x, 31, 0);
        Check.due("8: pass(10)", x.pass(10), 1);
        dueWetness("8: drier ones", x, 1, 0);
        Check.due("8: pass(1)", x.pass(1), 2);
        dueWetness("8: at least 0", x, 0, 0);
        Check.due("8: count(9)", x.count(9), 12);
        x.gust(60, 0);
        x.set(0, 0);
        Check.due("8: without drying", x.pass(99), 1);
        dueWetness("8: without drying", x, 90, 0);
        x.set(0, 50);
        Check.due("8: drying by 50", x.pass(1), 1);
        dueWetness("8: drying by 50", x, 40, 0);
        Check.due("8: it is an act", x.undo(), 3);
        dueWetness("8: undone", x, 90, 0);
        Check.due("8: undone", x.count(9), 111);
    }

    private static void promise08ManyMinutes() {
        UmbrellaQueue x = new UmbrellaQueue();
        Check.type(x, ".99;.99;.99;.99;.99;.99;.99;.99;.99;.99");
        for (int i = 0; i < 101; i++) {
            Check.due("8: perform()", x.perform(), 10);
        }
        Check.due("8: count(9)", x.count(9), 99990);
        Check.due("8: pass(99)", x.pass(99), -3);
        Check.due("8: pass(10)", x.pass(10), -3);
        Check.due("8: pass(100)", x.pass(100), -2);
        Check.due("8: count(9)", x.count(9), 99990);
        Check.due("8: pass(9)", x.pass(9), 0);
        Check.due("8: pass(1)", x.pass(1), -3);
        Check.due("8: count(9)", x.count(9), 99999);
        Check.due("8: undo()", x.undo(), 3);
        Check.due("8: count(9)", x.count(9), 99990);
    }

    private static void promise09Serve() {
        UmbrellaQueue x = new UmbrellaQueue();
        Check.due("9: serve()", x.serve(), -5);
        Check.due("9: count(16)", x.count(16), 0);
        x.come(100, 10, 0);
        x.come(100, 9, 0);
        x.come(100, 14, 0);
        x.come(100, 4, 0);
        Check.due("9: the fare for two", x.serve(), 10);
        Check.due("9: count(0)", x.count(0), 2);
        Check.due("9: those behind come on", x.person(0, 0), 2);
        Check.due("9: count(4)", x.count(4), 2);
        Check.due("9: count(5)", x.count(5), 10);
        Check.due("9: count(6)", x.count(6), 0);
        x.set(1, 4);
        x.set(2, 8);
        Check.due("9: fewer than four, too few coins", x.serve(), 14);
        Check.due("9: count(0)", x.count(0), 0);
        Check.due("9: count(4)", x.count(4), 4);
        Check.due("9: count(5)", x.count(5), 24);
        Check.due("9: count(6)", x.count(6), 2);
        x.come(100, 1, 0);
        Check.due("9: too few coins", x.serve(), 1);
        Check.due("9: count(6) adds up", x.count(6), 9);
        Check.due("9: count(5) adds up", x.count(5), 25);
        x.undo();
        x.undo();
        Check.due("9: they left by being served alone", x.count(2) + x.count(3), 0);
        Check.due("9: serve()", x.serve(), -5);
        Check.due("9: undo()", x.undo(), 1);
        Check.due("9: undone", x.count(0), 2);
        Check.due("9: undone", x.count(4), 2);
        Check.due("9: undone", x.count(5), 10);
        Check.due("9: undone", x.count(6), 0);
        x.set(2, 0);
        Check.due("9: without a fare", x.serve(), 0);
        Check.due("9: they leave all the same", x.count(0), 0);
    }

    private static void promise09TheDriestPays() {
        UmbrellaQueue x = new UmbrellaQueue();
        x.come(999, 1, 0);
        x.gust(40, 0);
        x.come(999, 2, 0);
        x.gust(40, 0);
        x.come(999, 3, 0);
        x.come(999, 4, 0);
        x.gust(1, 0);
        dueWetness("9: the driest", x, 81, 41, 1, 1);
        Check.due("9: of two", x.serve(), 2);
        x.undo();
        x.set(1, 3);
        Check.due("9: of three", x.serve(), 3);
        x.undo();
        x.set(1, 4);
        Check.due("9: of several the first", x.serve(), 3);
        Check.due("9: count(6)", x.count(6), 17);
        x.undo();
        x.set(1, 1);
        Check.due("9: of one", x.serve(), 1);
        Check.due("9: count(4)", x.count(4), 1);
        dueWetness("9: those who stay", x, 41, 1, 1);
    }
}
