/** Promises 10 to 13 at their ends: the empty text and the full one, each number's ends, the first and last stop. */
public final class TextBoundsTest {
    private static final int MIN = Integer.MIN_VALUE;
    private static final int MAX = Integer.MAX_VALUE;
    private static final String DIGITS = "0123456789";
    private static final String THIRTY = "c;c;c;c;c;c;c;c;c;c;c;c;c;c;c;c;c;c;c;c;c;c;c;c;c;c;c;c;c;c";

    public static void main(String[] args) {
        typeUpToSixtyCharacters();
        typeAnyCharacter();
        typeIsNoAct();
        clearTextThatIsEmptyOrFull();
        eachCharacterBehindEachBeginning();
        eachNumberOfEachKind();
        textsThatEndTooEarly();
        longestTexts();
        aFaultIsAheadOfAStop();
        aFaultChangesNothing();
        thingsThatAreStopped();
        theFirstThingThatIsStoppedCounts();
        allOfItOrNothing();
        refusalsAndNoneDoNotStop();
        performIsOneAct();
        performedAgain();
        placesAsTheyAreThen();
        minutesThatAreTooMany();
        stoppedBeyondItsRange();
        stoppedIsTheLatestOne();
        Check.end();
    }

    // ---- 10 type

    private static void typeUpToSixtyCharacters() {
        UmbrellaQueue x = new UmbrellaQueue();
        for (int length = 1; length <= 60; length++) {
            Check.due("10: type(q), " + length, x.type('q'), length);
            Check.due("10: count(17)", x.count(17), length);
        }
        for (char character : new char[] {'q', ';', 0, 255, 65535}) {
            Check.due("10: the 61st", x.type(character), -3);
        }
        Check.due("10: count(17)", x.count(17), 60);
        Check.due("10: clearText()", x.clearText(), 60);
        Check.due("10: type(q)", x.type('q'), 1);
        for (int length = 2; length <= 60; length++) {
            Check.due("10: again, " + length, x.type('q'), length);
        }
        Check.due("10: the 61st again", x.type('q'), -3);
    }

    private static void typeAnyCharacter() {
        char[] any = {0, 1, 9, 10, 13, 31, ' ', '"', '\'', '\\', 127, 128, 255, 256, 1632, 32767, 32768, 55296, 57343,
            65279, 65534, 65535};
        UmbrellaQueue x = new UmbrellaQueue();
        for (int i = 0; i < any.length; i++) {
            Check.due("10: type((char) " + (int) any[i] + ")", x.type(any[i]), i + 1);
        }
        Check.due("10: perform()", x.perform(), -100);
    }

    private static void typeIsNoAct() {
        UmbrellaQueue x = Check.queue(1);
        String before = Check.told(x);
        x.type('g');
        x.type('5');
        Check.due("10: states", x.count(16), 1);
        Check.holds("10: the state stays", before.equals(Check.told(x)));
        x.undo();
        Check.due("10: the text stays behind undo()", x.count(17), 2);
        x.keep();
        x.clearText();
        x.restore();
        Check.due("10: no text comes by restore()", x.count(17), 0);
    }

    // ---- 11 clearText

    private static void clearTextThatIsEmptyOrFull() {
        UmbrellaQueue x = new UmbrellaQueue();
        Check.due("11: empty", x.clearText(), 0);
        for (int length : new int[] {1, 2, 59, 60}) {
            for (int i = 0; i < length; i++) {
                x.type('c');
            }
            Check.due("11: length " + length, x.clearText(), length);
            Check.due("11: count(17)", x.count(17), 0);
            Check.due("11: empty again", x.clearText(), 0);
        }
        Check.due("11: no act", x.count(16), 0);
        Check.type(x, "g5;;");
        Check.type(x, "c");
        Check.due("11: nothing of the former text is left", x.perform(), 1);
        Check.type(x, "g99");
        Check.type(x, "g");
        Check.due("11: nor behind its end", x.perform(), -101);
    }

    // ---- 12 perform: faults

    /** Whether the character is allowed behind such a beginning. */
    private static void eachCharacterBehindEachBeginning() {
        String[][] rows = {{"", "g.cx"}, {"g", "123456789"}, {"g1", DIGITS + "<>;"}, {"g9", DIGITS + "<>;"},
            {"g10", "<>;"}, {"g99", "<>;"}, {"g1<", ";"}, {"g1>", ";"}, {"g55<", ";"}, {".", "123456789"},
            {".1", DIGITS + ";"}, {".9", DIGITS + ";"}, {".10", ";"}, {".99", ";"}, {"c", ";"}, {"x", DIGITS},
            {"x0", ";"}, {"x1", "012345;"}, {"x2", ";"}, {"x9", ";"}, {"x10", ";"}, {"x15", ";"}, {"c;", "g.cx"},
            {"g5<;", "g.cx"}, {".7;", "g.cx"}, {"x3;", "g.cx"}, {"c;g", "123456789"}, {"c;x1", "012345;"}};
        for (String[] row : rows) {
            for (int character = 0; character <= 300; character++) {
                dueBehind(row[0], (char) character, row[1]);
            }
            for (char character : new char[] {1632, 0xFF10, 0xFF11, 32768, 65535, 256 + 'c', 256 + ';', 256 + '1'}) {
                dueBehind(row[0], character, row[1]);
            }
        }
    }

    private static void dueBehind(String beginning, char character, String allowed) {
        UmbrellaQueue x = new UmbrellaQueue();
        Check.type(x, beginning);
        x.type(character);
        int answer = x.perform();
        boolean isFault = answer == -100 - beginning.length();
        Check.due("12: (char) " + (int) character + " behind '" + beginning + "' is a fault", isFault ? 1 : 0,
            allowed.indexOf(character) < 0 ? 1 : 0);
    }

    private static void eachNumberOfEachKind() {
        char[] kinds = {'g', '.', 'x'};
        int[] least = {1, 1, 0};
        int[] most = {99, 99, 15};
        for (int kind = 0; kind < 3; kind++) {
            for (int number = 0; number <= 1100; number++) {
                String text = kinds[kind] + Integer.toString(number);
                boolean sound = number >= least[kind] && number <= most[kind];
                int fault = number < least[kind] ? 1 : most[kind] == 15 ? 2 : 3;
                if (kind == 2 && number >= 100 && Integer.parseInt(text.substring(1, 3)) <= 15) {
                    fault = 3;
                }
                for (String behind : new String[] {"", ";c", ";", "q"}) {
                    int due = sound ? soundNumber(kind, text.length(), behind) : -100 - fault;
                    Check.due("12: " + text + behind, Check.perform(Check.queue(1), text + behind), due);
                }
                String zero = kinds[kind] + "0" + number;
                Check.due("12: " + zero, Check.perform(new UmbrellaQueue(), zero), kind == 2 ? -102 : -101);
            }
        }
    }

    /** One person is there: a gust comes, minutes pass, and nobody can swap. */
    private static int soundNumber(int kind, int length, String behind) {
        if (behind.equals(";")) {
            return -100 - length - 1;
        }
        if (behind.equals("q")) {
            return -100 - length;
        }
        return kind == 2 ? -4 : behind.isEmpty() ? 1 : 2;
    }

    private static void textsThatEndTooEarly() {
        String[] texts = {"", "g", ".", "x", "c;", "g5;", "g5<;", ".5;", "x0;", "c;g", "c;.", "c;x", "c;c;"};
        for (String text : texts) {
            Check.due("12: " + text, Check.perform(Check.queue(1, 2), text), -100 - text.length());
        }
        for (int end = 1; end <= 60; end++) {
            String text = (THIRTY + ";").substring(0, end);
            int due = end % 2 == 0 ? -100 - end : (end + 1) / 2;
            Check.due("12: " + text, Check.perform(Check.queue(1), text), due);
        }
    }

    private static void longestTexts() {
        UmbrellaQueue x = Check.queue(1);
        Check.due("12: thirty things in 59", Check.perform(x, THIRTY), 30);
        Check.due("12: 59", x.count(17), 59);
        Check.due("12: thirty things in 60", Check.perform(x, THIRTY.substring(0, 58) + ".1"), 30);
        Check.due("12: 60", x.count(17), 60);
        Check.due("12: the 61st is not of it", x.type('9'), -3);
        Check.due("12: the last minute", x.perform(), 30);
        Check.due("12: minutes", x.count(9), 2);
        String faulty = "g99<;g99>;.99;x15;g99<;g99>;.99;x15;g99<;g99>;.99;x15;g99<;g";
        Check.due("12: a fault at 60", Check.perform(x, faulty), -160);
        Check.due("12: a fault at 59", Check.perform(x, faulty.substring(0, 59) + "5"), -159);
        Check.due("12: a fault at 0", Check.perform(x, "q" + faulty.substring(1)), -100);
        UmbrellaQueue y = Check.queue(1);
        y.set(0, 0);
        String gusts = "g1;g1;g1;g1;g1;g1;g1;g1;g1;g1;g1;g1;g1;g1;g1;g1;g1;g1;g1;g1";
        Check.due("12: twenty gusts", Check.perform(y, gusts), 20);
        Check.due("12: count(8)", y.count(8), 20);
        Check.due("12: 60 at last a digit", Check.perform(y, gusts + "9"), 20);
        Check.due("12: a gust of 19", y.count(8), 40);
    }

    private static void aFaultIsAheadOfAStop() {
        UmbrellaQueue x = Check.queue(1);
        Check.due("12: x9;q", Check.perform(x, "x9;q"), -103);
        Check.due("12: no stop", x.stopped(0), -5);
        Check.due("12: no stop", x.stopped(1), -5);
        Check.due("12: x9", Check.perform(x, "x9"), -4);
        Check.due("12: c;x9;", Check.perform(x, "c;x9;"), -105);
        Check.due("12: the stop stays", x.stopped(0), 0);
        Check.due("12: the first fault", Check.perform(x, "c;q;q"), -102);
    }

    private static void aFaultChangesNothing() {
        for (String text : new String[] {"g50;", "g50;c;q", ".5;c;x", "c;c;g0"}) {
            UmbrellaQueue x = Check.queue(0, 1, 2);
            x.gust(9, 0);
            String before = Check.told(x);
            Check.holds("12: a fault in " + text, Check.perform(x, text) <= -100);
            Check.holds("12: nothing has changed", before.equals(Check.told(x)));
            Check.due("12: nothing is recorded", x.count(16), 4);
            Check.due("12: the text stays", x.count(17), text.length());
        }
    }

    // ---- 12 perform: what is done

    private static void thingsThatAreStopped() {
        for (int people = 0; people <= 16; people++) {
            for (int place = 0; place <= 15; place++) {
                UmbrellaQueue x = new UmbrellaQueue();
                for (int i = 0; i < people; i++) {
                    x.come(999, 0, i % 2 + 1);
                }
                boolean stops = place + 1 >= people;
                String call = "12: x" + place + " with " + people;
                Check.due(call, Check.perform(x, "x" + place), stops ? -4 : 1);
                Check.due(call + ": stopped(0)", x.stopped(0), stops ? 0 : -5);
                Check.due(call + ": stopped(1)", x.stopped(1), stops ? -1 : -5);
                Check.due(call + ": count(7)", x.count(7), stops ? 0 : 1);
                Check.due(call + ": count(16)", x.count(16), Math.min(4, stops ? people : people + 1));
            }
        }
    }

    private static void theFirstThingThatIsStoppedCounts() {
        UmbrellaQueue x = Check.queue(1, 2);
        Check.due("12: two stops", Check.perform(x, ".1;x7;x0;x8"), -4);
        Check.due("13: the first one", x.stopped(0), 1);
        Check.due("12: the last of thirty", Check.perform(x, THIRTY.substring(0, 58) + "x0"), -4);
        Check.due("13: its number", x.stopped(0), 29);
        Check.due("13: its error", x.stopped(1), -1);
        Check.due("12: all are there", x.count(0), 2);
        Check.due("12: the first", Check.perform(x, "x1;c"), -4);
        Check.due("13: its number", x.stopped(0), 0);
    }

    private static void allOfItOrNothing() {
        for (String text : new String[] {"g99;x9", "g99<;.9;c;c;c;x0", "x0;x1;x9", ".99;x9", "c;x9", "g99>;g99;g99;x2"}) {
            UmbrellaQueue x = new UmbrellaQueue();
            for (int i = 0; i < 5; i++) {
                x.come(150, 7, i % 3);
            }
            x.set(0, 1);
            x.gust(30, 0);
            String before = Check.told(x);
            Check.due("12: " + text, Check.perform(x, text), -4);
            Check.holds("12: nothing has changed by " + text, before.equals(Check.told(x)));
            Check.due("12: nothing is recorded", x.count(16), 4);
            Check.due("12: the text stays", x.count(17), text.length());
            Check.due("12: undo()", x.undo(), 3);
            Check.due("12: what is undone is the gust", x.count(10) + x.count(8), 0);
        }
    }

    private static void refusalsAndNoneDoNotStop() {
        UmbrellaQueue nobody = new UmbrellaQueue();
        Check.due("12: nobody there", Check.perform(nobody, "g1;g99<;g99>;c"), 4);
        Check.due("12: it is an act", nobody.count(16), 1);
        Check.due("12: no gusts", nobody.count(8), 0);
        UmbrellaQueue leaving = new UmbrellaQueue();
        leaving.come(10, 0, 0);
        Check.due("12: nobody is there any more", Check.perform(leaving, "g99;g99;c;.1"), 4);
        Check.due("12: one gust", leaving.count(8), 1);
        Check.due("12: one left", leaving.count(3), 1);
        Check.due("12: nobody was served", leaving.count(4), 0);
        UmbrellaQueue one = Check.queue(1, 1, 0);
        Check.due("12: the reasons 1 and 2", Check.perform(one, "x0;x1;x1;x0"), 4);
        Check.due("12: no swap", one.count(7), 0);
        Check.due("12: it is an act", one.count(16), 4);
        UmbrellaQueue three = Check.queue(1, 2);
        // Who stays is wet by 1; behind the swap that one has the wider umbrella, and keeps it.
        three.gust(2, 0);
        three.leave(0);
        three.come(999, 0, 3);
        three.letAhead(0);
        Check.due("12: wetness", three.person(1, 1), 1);
        Check.due("12: a swap and the refusals 3", Check.perform(three, "x0;x0;x0"), 3);
        Check.due("12: one swap", three.count(7), 1);
        Check.due("12: no stop", three.stopped(0), -5);
    }

    private static void performIsOneAct() {
        UmbrellaQueue x = Check.queue(1, 2, 3, 0);
        Check.due("12: four things", Check.perform(x, "g50;x0;.3;c"), 4);
        Check.due("12: four states", x.count(16), 4);
        Check.due("12: undo()", x.undo(), 3);
        Check.due("12: all four are undone", x.count(0) * 100 + x.count(7) + x.count(8) + x.count(9), 400);
        Check.due("12: undo()", x.undo(), 2);
        Check.due("12: what was before", x.count(0), 3);
        UmbrellaQueue y = new UmbrellaQueue();
        Check.perform(y, ".1;.1;.1;.1;.1");
        Check.due("12: one state", y.count(16), 1);
        Check.due("12: undo()", y.undo(), 0);
        Check.due("12: no minute", y.count(9), 0);
    }

    private static void performedAgain() {
        UmbrellaQueue x = Check.queue(0);
        Check.type(x, "g9;.1");
        for (int times = 1; times <= 5; times++) {
            Check.due("12: again", x.perform(), 2);
            Check.due("12: wetness", x.person(0, 1), 6 * times);
            Check.due("12: the text stays", x.count(17), 5);
        }
        x.type(';');
        Check.due("12: it goes on", x.perform(), -106);
        x.type('c');
        Check.due("12: it goes on", x.perform(), 3);
        Check.due("12: nobody is there", x.count(0), 0);
    }

    /** Who leaves by a thing is not there for the next one. */
    private static void placesAsTheyAreThen() {
        UmbrellaQueue x = new UmbrellaQueue();
        x.come(10, 0, 0);
        x.come(999, 0, 1);
        x.come(999, 0, 2);
        Check.due("12: x1 is there", Check.perform(x, "x1"), 1);
        x.undo();
        Check.due("12: x1 is not there any more", Check.perform(x, "g30;x1"), -4);
        Check.due("13: stopped(0)", x.stopped(0), 1);
        Check.due("12: all are back", x.count(0), 3);
        Check.due("12: x1 is there first", Check.perform(x, "x1;g30"), 2);
        UmbrellaQueue y = Check.queue(1, 2, 3, 4);
        Check.due("12: x1 behind the counter", Check.perform(y, "c;x1"), -4);
        Check.due("12: x0 behind the counter", Check.perform(y, "c;x0"), 2);
        Check.due("12: the widths then", y.person(0, 4) * 10 + y.person(1, 4), 43);
    }

    private static void minutesThatAreTooMany() {
        UmbrellaQueue x = Check.queue(0);
        Check.passMinutes(x, 99998);
        x.gust(10, 0);
        Check.due("12: .1;.1", Check.perform(x, ".1;.1"), -4);
        Check.due("13: stopped(0)", x.stopped(0), 1);
        Check.due("13: stopped(1)", x.stopped(1), -3);
        Check.due("12: minutes", x.count(9), 99998);
        Check.due("12: wetness", x.person(0, 1), 10);
        Check.due("12: .2", Check.perform(x, ".2"), -4);
        Check.due("13: stopped(0)", x.stopped(0), 0);
        Check.due("12: g5;.1;c", Check.perform(x, "g5;.1;c"), 3);
        Check.due("12: minutes", x.count(9), 99999);
        Check.due("12: .1", Check.perform(x, "g5;c;.1"), -4);
        Check.due("13: stopped(0)", x.stopped(0), 2);
        Check.due("12: without minutes", Check.perform(x, "g5;c"), 2);
    }

    // ---- 13 stopped

    private static void stoppedBeyondItsRange() {
        UmbrellaQueue x = new UmbrellaQueue();
        for (int round = 0; round < 2; round++) {
            for (int what : new int[] {-1, 2, 3, -5, MIN, MAX}) {
                Check.due("13: stopped(" + what + ")", x.stopped(what), -2);
            }
            Check.due("13: stopped(0)", x.stopped(0), round == 0 ? -5 : 0);
            Check.due("13: stopped(1)", x.stopped(1), round == 0 ? -5 : -1);
            Check.perform(x, "x0");
        }
    }

    private static void stoppedIsTheLatestOne() {
        UmbrellaQueue x = new UmbrellaQueue();
        Check.perform(x, "c");
        Check.due("13: nothing was stopped yet", x.stopped(0), -5);
        Check.perform(x, "c;x0");
        Check.due("13: stopped(0)", x.stopped(0), 1);
        Check.perform(x, "c;c;x0");
        Check.due("13: a later one", x.stopped(0), 2);
        Check.perform(x, "c;c");
        Check.due("13: behind a sound one", x.stopped(0), 2);
        Check.perform(x, "c;c;c;x");
        Check.due("13: behind a faulty one", x.stopped(0), 2);
        x.clearText();
        x.swap(0);
        x.pass(0);
        Check.due("13: behind other calls", x.stopped(0) * 10 + x.stopped(1), 19);
        x.come(10, 0, 0);
        x.keep();
        x.undo();
        x.restore();
        Check.due("13: behind undo() and restore()", x.stopped(0) * 10 + x.stopped(1), 19);
        Check.due("13: telling it changes nothing", x.count(16), 3);
    }
}
