/** Promises 10 to 13. */
public final class TextTest {
    public static void main(String[] args) {
        promise10Type();
        promise11ClearText();
        promise12Faults();
        promise12LongTexts();
        promise12Perform();
        promise12AllOrNothing();
        promise12WhatDoesNotStop();
        promise13Stopped();
        Check.end();
    }

    private static void promise10Type() {
        UmbrellaQueue x = new UmbrellaQueue();
        for (int i = 1; i <= 60; i++) {
            Check.due("10: type(c), the " + i + "th", x.type(i % 2 == 1 ? 'c' : ';'), i);
            Check.due("10: count(17)", x.count(17), i);
        }
        Check.due("10: type(c)", x.type('c'), -3);
        Check.due("10: type(0)", x.type((char) 0), -3);
        Check.due("10: count(17)", x.count(17), 60);
        Check.due("10: it is no act", x.count(16), 0);
        UmbrellaQueue y = new UmbrellaQueue();
        Check.due("10: type(0)", y.type((char) 0), 1);
        Check.due("10: type(65535)", y.type((char) 65535), 2);
        Check.due("10: perform()", y.perform(), -100);
    }

    private static void promise11ClearText() {
        UmbrellaQueue x = Check.queue(0);
        Check.due("11: clearText()", x.clearText(), 0);
        Check.type(x, "g5;c");
        Check.due("11: clearText()", x.clearText(), 4);
        Check.due("11: clearText()", x.clearText(), 0);
        Check.due("11: count(17)", x.count(17), 0);
        Check.due("11: perform()", x.perform(), -100);
        Check.due("11: it is no act", x.count(16), 1);
        Check.due("11: type(c)", x.type('c'), 1);
        Check.due("11: perform()", x.perform(), 1);
        Check.type(x, "012345678901234567890123456789012345678901234567890123456789");
        Check.due("11: clearText()", x.clearText(), 60);
        x.type('c');
        x.undo();
        Check.due("11: the text is not of the state", x.count(17), 1);
    }

    private static void promise12Faults() {
        String[] texts = {"", "g", "g0", "g01", "g100", "g990", "g5<>", "g5<<", "g5;", "g5;;", "g<", "g5 ", ".", ".0",
            ".00", ".100", ".9<", "c1", "cc", "c;", ";", ";c", "x", "x00", "x01", "x16", "x20", "x99", "x100", "x-1",
            "x<", "x5>", "G5", "y", "5", " ", "g5,c", "c;g", "c;g5;x", "c;;c", "g+5", "g5<1", "gg5", ".g", "x155",
            "g5<;", "c;c;c;q", "x0.", "x0c", "g:", "g/", ".:", "x:", "x/", "x1:", "x1/", "g1:", "g1/"};
        int[] faults = {0, 1, 1, 1, 3, 3, 3, 3, 3, 3, 1, 2, 1, 1,
            1, 3, 2, 1, 1, 2, 0, 0, 1, 2, 2, 2, 2, 2, 3, 1,
            1, 2, 0, 0, 0, 0, 2, 3, 6, 2, 1, 3, 1, 1, 3,
            4, 6, 2, 2, 1, 1, 1, 1, 1, 2, 2, 2, 2};
        UmbrellaQueue x = Check.queue(0);
        for (int i = 0; i < texts.length; i++) {
            Check.due("12: fault of " + texts[i], Check.perform(x, texts[i]), -100 - faults[i]);
        }
        Check.due("12: a fault changes nothing", x.count(16), 1);
        Check.due("12: a fault is no stop", x.stopped(0), -5);
        UmbrellaQueue y = Check.queue(1);
        String[] sound = {"c", "g1", "g9", "g10", "g99", "g5<", "g99>", ".1", ".99", "x0", "c;c", "g1<;g10;c"};
        for (String text : sound) {
            Check.holds("12: no fault in " + text, Check.perform(y, text) >= -5);
            y.come(999, 0, 1);
        }
        for (int place = 0; place <= 15; place++) {
            Check.due("12: no fault in x" + place, Check.perform(new UmbrellaQueue(), "x" + place), -4);
        }
        UmbrellaQueue z = new UmbrellaQueue();
        Check.type(z, "c");
        z.type((char) 0);
        Check.due("12: the sign 0", z.perform(), -101);
        Check.type(z, "g");
        z.type((char) 0x664);
        Check.due("12: a digit of another script", z.perform(), -101);
    }

    private static void promise12LongTexts() {
        UmbrellaQueue x = Check.queue(0);
        String things = "c;c;c;c;c;c;c;c;c;c;c;c;c;c;c;c;c;c;c;c;c;c;c;c;c;c;c;c;c;c";
        Check.due("12: thirty things", Check.perform(x, things), 30);
        Check.due("12: they end too early", Check.perform(x, things + ";"), -160);
        Check.due("12: the last sign is wrong", Check.perform(x, things + "c"), -159);
        Check.due("12: 60 signs", Check.perform(x, ".9;" + things.substring(0, 57)), 30);
        Check.due("12: it ends in a number", Check.perform(x, things.substring(0, 58) + "g"), -159);
    }

    private static void promise12Perform() {
        UmbrellaQueue x = new UmbrellaQueue();
        x.come(999, 50, 1);
        x.come(999, 60, 0);
        x.come(999, 70, 0);
        x.come(999, 80, 2);
        Check.due("12: perform()", Check.perform(x, "g40;x0;g1<;g1>;.2;c;g9;.1"), 8);
        UmbrellaQueue y = new UmbrellaQueue();
        y.come(999, 50, 1);
        y.come(999, 60, 0);
        y.come(999, 70, 0);
        y.come(999, 80, 2);
        y.gust(40, 0);
        y.swap(0);
        y.gust(1, 1);
        y.gust(1, 2);
        y.pass(2);
        y.serve();
        y.gust(9, 0);
        y.pass(1);
        Check.due("12: swaps", x.count(7), 1);
        Check.due("12: gusts", x.count(8), 4);
        Check.due("12: minutes", x.count(9), 3);
        Check.due("12: served", x.count(4), 2);
        Check.due("12: wetness of all", x.count(10), y.count(10));
        for (int what = 0; what <= 8; what++) {
            for (int place = 0; place < 2; place++) {
                Check.due("12: person(" + place + ", " + what + ")", x.person(place, what), y.person(place, what));
            }
        }
        Check.due("12: the text stays", x.count(17), 25);
        Check.due("12: it is one act", x.count(16), 4);
        Check.due("12: undo()", x.undo(), 3);
        Check.due("12: all is undone", x.count(8), 0);
        Check.due("12: all is undone", x.count(0), 4);
        Check.due("12: again", x.perform(), 8);
        sidesOfGusts();
    }

    private static void sidesOfGusts() {
        UmbrellaQueue x = Check.queue(0, 1, 0);
        Check.perform(x, "g1");
        Check.due("12: straight", x.person(0, 1) * 10 + x.person(2, 1), 11);
        Check.perform(x, "g1<");
        Check.due("12: from ahead", x.person(0, 1) * 10 + x.person(2, 1), 21);
        Check.perform(x, "g1>");
        Check.due("12: from behind", x.person(0, 1) * 10 + x.person(2, 1), 22);
        Check.perform(x, "g98");
        Check.due("12: 98 drops", x.person(0, 1), 2 + 98 + 49);
    }

    private static void promise12AllOrNothing() {
        UmbrellaQueue x = Check.queue(1, 0, 3);
        x.set(2, 7);
        String before = Check.told(x);
        Check.due("12: stopped at the end", Check.perform(x, "g90;x0;.1;c;x1"), -4);
        Check.holds("12: nothing has changed", before.equals(Check.told(x)));
        Check.due("12: the text stays", x.count(17), 14);
        Check.due("12: undo()", x.undo(), 3);
        Check.due("12: undone is the act before", x.count(15), 5);
        Check.due("12: undo()", x.undo(), 2);
        Check.due("12: undo()", x.undo(), 1);
        Check.due("12: undo()", x.undo(), 0);
        Check.due("12: the oldest state is still there", x.count(0), 0);
    }

    private static void promise12WhatDoesNotStop() {
        UmbrellaQueue x = new UmbrellaQueue();
        Check.due("12: with nobody there", Check.perform(x, "g5;c;g9<"), 3);
        Check.due("12: no gust", x.count(8), 0);
        Check.due("12: it is an act", x.count(16), 1);
        UmbrellaQueue y = Check.queue(1, 1, 0);
        Check.due("12: refusals", Check.perform(y, "x0;x1;.1"), 3);
        Check.due("12: no swap", y.count(7), 0);
        Check.due("12: a minute", y.count(9), 1);
        UmbrellaQueue z = Check.queue(1, 3);
        z.gust(2, 0);
        Check.due("12: a refusal for the reason 3", Check.perform(z, "x0"), 1);
        Check.due("12: no swap", z.count(7), 0);
    }

    private static void promise13Stopped() {
        UmbrellaQueue x = Check.queue(1, 2);
        Check.due("13: stopped(0)", x.stopped(0), -5);
        Check.due("13: stopped(1)", x.stopped(1), -5);
        Check.due("13: stopped(-1)", x.stopped(-1), -2);
        Check.due("13: stopped(2)", x.stopped(2), -2);
        Check.perform(x, "x0;x0;x1");
        Check.due("13: stopped(0)", x.stopped(0), 2);
        Check.due("13: stopped(1)", x.stopped(1), -1);
        Check.due("13: stopped(2)", x.stopped(2), -2);
        Check.perform(x, "x9");
        Check.due("13: the latest one", x.stopped(0), 0);
        Check.due("13: a sound one", Check.perform(x, ".1;x0"), 2);
        Check.due("13: a faulty one", Check.perform(x, "c;x"), -103);
        x.undo();
        x.keep();
        x.restore();
        Check.due("13: it stays", x.stopped(0), 0);
        Check.due("13: it stays", x.stopped(1), -1);
        UmbrellaQueue y = new UmbrellaQueue();
        Check.type(y, ".99;.99;.99;.99;.99;.99;.99;.99;.99;.99");
        for (int i = 0; i < 101; i++) {
            y.perform();
        }
        Check.due("13: too many minutes", Check.perform(y, "c;.9;.1;x0"), -4);
        Check.due("13: stopped(0)", y.stopped(0), 2);
        Check.due("13: stopped(1)", y.stopped(1), -3);
        Check.due("13: nothing has changed", y.count(9), 99990);
    }
}
