/** Promises 14 to 16. */
public final class HistoryTest {
    public static void main(String[] args) {
        promise14Undo();
        promise14WhatIsNoAct();
        promise14EachAct();
        promise15Keep();
        promise16Restore();
        Check.end();
    }

    private static void promise14Undo() {
        UmbrellaQueue x = new UmbrellaQueue();
        Check.due("14: undo()", x.undo(), -5);
        for (int people = 1; people <= 6; people++) {
            x.come(100, 0, 0);
            Check.due("14: states", x.count(16), Math.min(4, people));
        }
        x.leave(9);
        for (int left = 3; left >= 0; left--) {
            Check.due("14: undo()", x.undo(), left);
            Check.due("14: people", x.count(0), 2 + left);
            Check.due("14: states", x.count(16), left);
        }
        Check.due("14: undo()", x.undo(), -5);
        Check.due("14: people", x.count(0), 2);
        x.come(100, 0, 0);
        Check.due("14: the number is given again", x.person(2, 0), 2);
        x.leave(0);
        Check.due("14: undo()", x.undo(), 1);
        Check.due("14: people", x.count(0), 3);
        Check.due("14: undo()", x.undo(), 0);
        Check.due("14: people", x.count(0), 2);
    }

    private static void promise14WhatIsNoAct() {
        UmbrellaQueue x = Check.queue(1, 0);
        x.keep();
        x.type('q');
        x.perform();
        x.clearText();
        x.stopped(0);
        x.person(0, 1);
        x.placeOf(0);
        x.ifGust(0, 9, 0, 2);
        x.reason(0);
        x.bestSwap(9, 0);
        x.payer(0);
        x.bears(0, 9);
        x.count(0);
        x.come(0, 0, 0);
        x.leave(9);
        x.letAhead(9);
        x.swap(0);
        x.set(0, 3);
        x.gust(0, 0);
        x.pass(0);
        Check.due("14: two states", x.count(16), 2);
        Check.due("14: undo()", x.undo(), 1);
        Check.due("14: one person", x.count(0), 1);
        UmbrellaQueue y = new UmbrellaQueue();
        y.gust(5, 0);
        y.serve();
        y.restore();
        Check.due("14: nothing is recorded", y.count(16), 0);
    }

    private static void promise14EachAct() {
        for (int act = 0; act < 10; act++) {
            UmbrellaQueue x = Check.queue(1, 3, 0);
            x.keep();
            x.set(2, 6);
            Check.type(x, "g9");
            String before = Check.told(x);
            int answer = act(x, act);
            Check.holds("14: act " + act + " succeeds", answer >= 0);
            Check.due("14: act " + act + " is recorded", x.count(16), 4);
            Check.holds("14: act " + act + " changes something", !before.equals(Check.told(x)));
            x.undo();
            Check.holds("14: act " + act + " is undone", before.equals(Check.told(x)));
            Check.due("14: the text is as it was", x.count(17), 2);
        }
    }

    private static int act(UmbrellaQueue x, int act) {
        switch (act) {
            case 0:
                return x.come(100, 0, 1);
            case 1:
                return x.leave(1);
            case 2:
                return x.letAhead(1);
            case 3:
                return x.swap(0);
            case 4:
                return x.set(0, 9);
            case 5:
                return x.gust(7, 2);
            case 6:
                return x.pass(5);
            case 7:
                return x.serve();
            case 8:
                return x.perform();
            default:
                return x.restore();
        }
    }

    private static void promise15Keep() {
        UmbrellaQueue x = new UmbrellaQueue();
        Check.due("15: keep()", x.keep(), 0);
        x.come(100, 0, 0);
        Check.due("15: keep()", x.keep(), 1);
        Check.due("15: it is no act", x.count(16), 1);
        x.come(100, 0, 0);
        x.come(100, 0, 0);
        Check.due("15: restore()", x.restore(), 1);
        x.come(100, 0, 0);
        Check.due("15: in place of the one that was", x.keep(), 2);
        x.leave(0);
        Check.due("15: restore()", x.restore(), 2);
        x.undo();
        x.undo();
        x.undo();
        x.undo();
        Check.due("15: the snapshot is not of the state", x.restore(), 2);
        UmbrellaQueue y = new UmbrellaQueue();
        y.keep();
        y.come(100, 0, 0);
        Check.due("15: a snapshot of the empty queue", y.restore(), 0);
    }

    private static void promise16Restore() {
        UmbrellaQueue x = new UmbrellaQueue();
        Check.due("16: restore()", x.restore(), -5);
        x.come(100, 30, 1);
        x.come(200, 20, 4);
        x.come(300, 10, 0);
        x.come(400, 5, 0);
        x.set(0, 7);
        x.gust(40, 1);
        x.swap(0);
        x.pass(2);
        x.serve();
        x.keep();
        String kept = Check.told(x);
        x.set(2, 1);
        x.set(1, 1);
        x.set(0, 1);
        x.gust(99, 0);
        x.pass(1);
        x.come(100, 0, 0);
        x.letAhead(0);
        x.leave(0);
        x.serve();
        String last = Check.told(x);
        Check.type(x, "g5");
        Check.due("16: restore()", x.restore(), 2);
        Check.holds("16: all is as it was", kept.equals(Check.told(x)));
        Check.due("16: but the text", x.count(17), 2);
        Check.due("16: it is an act", x.undo(), 3);
        Check.due("16: people before", x.count(0), Integer.parseInt(last.split(" ")[0]));
        x.restore();
        x.gust(9, 0);
        Check.due("16: the snapshot stays", x.restore(), 2);
        Check.holds("16: all is as it was", kept.equals(Check.told(x)));
        x.gust(9, 0);
        x.restore();
        Check.holds("16: gusts do not touch the snapshot", kept.equals(Check.told(x)));
    }
}
