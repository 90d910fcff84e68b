/** Promises 14 to 16 at their ends: the empty history and the full one, answers of 0, no snapshot and an empty one. */
public final class HistoryBoundsTest {
    public static void main(String[] args) {
        undoOfAnEmptyHistory();
        undoOfOneToFourStates();
        theFifthStateDropsTheOldest();
        undoIsNoAct();
        actsThatAnswerZeroAreRecorded();
        actsThatChangeNothingButTheHistory();
        eachAccountIsOfTheState();
        whatIsNotOfTheState();
        keepOfNobodyToSixteen();
        keepIsNoAct();
        keepInPlaceOfTheOneThatWas();
        restoreWithoutASnapshot();
        restoreOfAnEmptySnapshot();
        restoreIsAnAct();
        restoreAsOftenAsWanted();
        restoreTakesPeopleBack();
        Check.end();
    }

    // ---- 14 undo

    private static void undoOfAnEmptyHistory() {
        UmbrellaQueue x = new UmbrellaQueue();
        Check.due("14: undo()", x.undo(), -5);
        Check.due("14: undo() again", x.undo(), -5);
        Check.due("14: count(16)", x.count(16), 0);
        x.come(10, 0, 0);
        Check.due("14: undo() of one", x.undo(), 0);
        Check.due("14: undo() of none", x.undo(), -5);
        Check.due("14: nobody is there", x.count(0), 0);
        x.come(10, 0, 0);
        Check.due("14: count(16)", x.count(16), 1);
        x.undo();
        Check.due("14: nobody came", x.count(1), 0);
    }

    private static void undoOfOneToFourStates() {
        for (int acts = 1; acts <= 4; acts++) {
            UmbrellaQueue x = new UmbrellaQueue();
            for (int i = 1; i <= acts; i++) {
                x.pass(i);
                Check.due("14: count(16)", x.count(16), i);
            }
            int minutes = acts * (acts + 1) / 2;
            for (int i = acts; i >= 1; i--) {
                Check.due("14: count(9)", x.count(9), minutes);
                Check.due("14: undo()", x.undo(), i - 1);
                minutes -= i;
            }
            Check.due("14: no minutes", x.count(9), 0);
            Check.due("14: undo()", x.undo(), -5);
        }
    }

    private static void theFifthStateDropsTheOldest() {
        for (int acts = 5; acts <= 30; acts++) {
            UmbrellaQueue x = new UmbrellaQueue();
            for (int i = 0; i < acts; i++) {
                x.pass(1);
                Check.due("14: count(16)", x.count(16), Math.min(4, i + 1));
            }
            for (int left = 3; left >= 0; left--) {
                Check.due("14: undo()", x.undo(), left);
                Check.due("14: minutes", x.count(9), acts - 4 + left);
            }
            Check.due("14: undo()", x.undo(), -5);
            Check.due("14: the oldest ones are gone", x.count(9), acts - 4);
            x.pass(50);
            Check.due("14: undo() of a new one", x.undo(), 0);
            Check.due("14: minutes", x.count(9), acts - 4);
        }
    }

    private static void undoIsNoAct() {
        UmbrellaQueue x = new UmbrellaQueue();
        x.pass(1);
        x.pass(2);
        x.pass(4);
        Check.due("14: undo()", x.undo(), 2);
        x.pass(8);
        Check.due("14: undo()", x.undo(), 2);
        Check.due("14: minutes", x.count(9), 3);
        Check.due("14: undo()", x.undo(), 1);
        Check.due("14: minutes", x.count(9), 1);
        Check.due("14: undo()", x.undo(), 0);
        Check.due("14: undo()", x.undo(), -5);
    }

    /** 0 is no error and not NONE, so that the state is recorded. */
    private static void actsThatAnswerZeroAreRecorded() {
        UmbrellaQueue x = new UmbrellaQueue();
        dueRecorded("come()", x, x.come(10, 0, 0), 1);
        UmbrellaQueue left = Check.queue(0);
        dueRecorded("leave()", left, left.leave(0), 2);
        UmbrellaQueue ahead = Check.queue(0, 0);
        ahead.letAhead(0);
        dueRecorded("letAhead()", ahead, ahead.letAhead(0), 4);
        UmbrellaQueue swap = Check.queue(1, 0);
        swap.gust(34, 0);
        dueRecorded("swap()", swap, swap.swap(0), 4);
        UmbrellaQueue set = new UmbrellaQueue();
        set.set(0, 0);
        dueRecorded("set()", set, set.set(0, 1), 2);
        UmbrellaQueue gust = Check.queue(0);
        dueRecorded("gust()", gust, gust.gust(1, 0), 2);
        UmbrellaQueue pass = new UmbrellaQueue();
        dueRecorded("pass()", pass, pass.pass(1), 1);
        UmbrellaQueue serve = new UmbrellaQueue();
        serve.come(10, 0, 0);
        dueRecorded("serve()", serve, serve.serve(), 2);
        UmbrellaQueue restore = new UmbrellaQueue();
        restore.keep();
        dueRecorded("restore()", restore, restore.restore(), 1);
    }

    private static void dueRecorded(String call, UmbrellaQueue x, int answer, int states) {
        Check.due("14: " + call, answer, 0);
        Check.due("14: " + call + " is recorded", x.count(16), states);
        Check.due("14: " + call + " is undone", x.undo(), states - 1);
    }

    private static void actsThatChangeNothingButTheHistory() {
        UmbrellaQueue x = Check.queue(1);
        x.keep();
        x.restore();
        Check.due("14: restore() of what is there", x.count(16), 2);
        Check.due("14: undo()", x.undo(), 1);
        Check.due("14: who is there stays", x.count(0), 1);
        UmbrellaQueue y = Check.queue(0, 0);
        Check.perform(y, "x0");
        Check.due("14: perform() of refusals alone", y.count(16), 3);
        Check.due("14: undo()", y.undo(), 2);
        Check.due("14: both are there", y.count(0), 2);
    }

    /** A run in which each account changes; each state is told again as it was. */
    private static void eachAccountIsOfTheState() {
        UmbrellaQueue x = new UmbrellaQueue();
        x.come(40, 3, 1);
        x.come(30, 2, 0);
        x.come(999, 1, 4);
        x.come(999, 50, 2);
        x.come(10, 60, 0);
        String[] told = new String[5];
        for (int round = 0; round < 8; round++) {
            for (int act = 0; act < 4; act++) {
                told[act] = Check.told(x);
                Check.holds("14: round " + round + ", act " + act, act(x, round, act) >= 0);
            }
            told[4] = Check.told(x);
            for (int act = 3; act >= 0; act--) {
                Check.holds("14: it changed something", !told[act].equals(told[act + 1]));
                Check.due("14: undo()", x.undo(), act);
                Check.holds("14: round " + round + ", act " + act + " is undone", told[act].equals(Check.told(x)));
            }
        }
    }

    private static int act(UmbrellaQueue x, int round, int act) {
        switch ((round + act * 3) % 11) {
            case 0:
                return x.gust(40, round % 3);
            case 1:
                return x.pass(7);
            case 2:
                return x.serve();
            case 3:
                return x.leave(0);
            case 4:
                return x.come(20, 5, 3);
            case 5:
                return x.letAhead(0);
            case 6:
                return x.set(0, 11 + round + act);
            case 7:
                return x.set(1, x.count(14) == 1 ? 4 : 1);
            case 8:
                return x.set(2, 11 + round + act);
            case 9:
                x.clearText();
                Check.type(x, "g50<;.3;c");
                return x.perform();
            default:
                return x.gust(9, 2);
        }
    }

    private static void whatIsNotOfTheState() {
        UmbrellaQueue x = new UmbrellaQueue();
        x.come(10, 0, 0);
        x.come(20, 0, 0);
        Check.type(x, "c;x9");
        x.keep();
        x.perform();
        Check.due("14: undo()", x.undo(), 1);
        Check.due("14: the text stays", x.count(17), 4);
        Check.due("14: the stop stays", x.stopped(0), 1);
        x.undo();
        Check.due("14: the snapshot stays", x.restore(), 2);
        Check.due("14: the history is not of the snapshot", x.count(16), 1);
        x.clearText();
        x.undo();
        Check.due("14: the text stays empty", x.count(17), 0);
    }

    // ---- 15 keep

    private static void keepOfNobodyToSixteen() {
        UmbrellaQueue x = new UmbrellaQueue();
        for (int people = 0; people <= 16; people++) {
            Check.due("15: keep()", x.keep(), people);
            Check.due("15: keep() again", x.keep(), people);
            x.come(999, people, people % 6);
        }
        x.leave(3);
        Check.due("16: restore()", x.restore(), 16);
        for (int place = 0; place < 16; place++) {
            Check.due("16: number at " + place, x.person(place, 0), place);
            Check.due("16: coins at " + place, x.person(place, 3), place);
            Check.due("16: width at " + place, x.person(place, 4), place % 6);
        }
        Check.due("16: full again", x.come(10, 0, 0), -3);
    }

    private static void keepIsNoAct() {
        UmbrellaQueue x = new UmbrellaQueue();
        x.keep();
        Check.due("15: states", x.count(16), 0);
        Check.due("15: undo()", x.undo(), -5);
        x.pass(1);
        x.keep();
        Check.due("15: undo()", x.undo(), 0);
        Check.due("15: minutes", x.count(9), 0);
        x.restore();
        Check.due("15: undo() took nothing from the snapshot", x.count(9), 1);
    }

    private static void keepInPlaceOfTheOneThatWas() {
        UmbrellaQueue x = new UmbrellaQueue();
        x.pass(1);
        x.keep();
        x.pass(2);
        x.keep();
        x.pass(4);
        x.restore();
        Check.due("15: the later one", x.count(9), 3);
        x.undo();
        x.undo();
        x.undo();
        Check.due("15: minutes", x.count(9), 1);
        x.keep();
        x.pass(8);
        x.restore();
        Check.due("15: the one behind undo()", x.count(9), 1);
    }

    // ---- 16 restore

    private static void restoreWithoutASnapshot() {
        UmbrellaQueue x = new UmbrellaQueue();
        Check.due("16: restore()", x.restore(), -5);
        x.come(10, 0, 0);
        Check.due("16: restore() with somebody there", x.restore(), -5);
        Check.due("16: who is there stays", x.count(0), 1);
        Check.due("16: nothing is recorded", x.count(16), 1);
        x.undo();
        Check.due("16: restore() behind undo()", x.restore(), -5);
    }

    private static void restoreOfAnEmptySnapshot() {
        UmbrellaQueue x = new UmbrellaQueue();
        x.keep();
        x.come(10, 0, 0);
        x.set(2, 9);
        Check.due("16: restore()", x.restore(), 0);
        Check.due("16: nobody is there", x.count(0), 0);
        Check.due("16: nobody came", x.count(1), 0);
        Check.due("16: the setting", x.count(15), 5);
        Check.due("16: states", x.count(16), 3);
        Check.due("16: restore() again", x.restore(), 0);
        Check.due("16: number 0 comes again", x.come(10, 0, 0) + x.person(0, 0), 0);
    }

    private static void restoreIsAnAct() {
        UmbrellaQueue x = Check.queue(1, 2);
        x.keep();
        x.gust(9, 0);
        x.leave(0);
        String before = Check.told(x);
        Check.due("16: states", x.count(16), 4);
        Check.due("16: restore()", x.restore(), 2);
        Check.due("16: states", x.count(16), 4);
        Check.due("16: undo()", x.undo(), 3);
        Check.holds("16: it is undone", before.equals(Check.told(x)));
        Check.due("16: undo()", x.undo(), 2);
        Check.due("16: and what was before", x.count(0), 2);
    }

    private static void restoreAsOftenAsWanted() {
        UmbrellaQueue x = Check.queue(3, 0, 1);
        x.gust(30, 2);
        x.keep();
        String kept = Check.told(x);
        for (int round = 0; round < 6; round++) {
            x.gust(99, round % 3);
            x.swap(0);
            x.letAhead(1);
            x.pass(3);
            x.set(round % 3, 4 - round % 3);
            x.serve();
            x.leave(0);
            x.come(50, 1, 5);
            Check.due("16: restore()", x.restore(), 3);
            Check.holds("16: as it was kept", kept.equals(Check.told(x)));
            Check.due("16: states", x.count(16), 4);
        }
    }

    private static void restoreTakesPeopleBack() {
        UmbrellaQueue x = Check.queue(0);
        x.keep();
        for (int i = 0; i < 199; i++) {
            x.leave(0);
            x.come(10, 0, 0);
        }
        x.leave(0);
        Check.due("16: no more can come", x.come(10, 0, 0), -3);
        Check.due("16: restore()", x.restore(), 1);
        Check.due("16: they can come again", x.come(10, 0, 0), 1);
        Check.due("16: with the next number", x.person(1, 0), 1);
    }
}
