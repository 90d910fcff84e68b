import java.util.function.Supplier;
import java.util.function.ToIntFunction;

/**
 * Calls that answer an error or NONE, and calls that tell something: each is made on an object of its own, which
 * must then hold all that a twin holds on which it was not made, with its history, snapshot and text.
 */
public final class NothingChangesTest {
    private static final int MIN = Integer.MIN_VALUE;
    private static final int MAX = Integer.MAX_VALUE;

    public static void main(String[] args) {
        onANewObject();
        onAQueueOfThree();
        onAFullQueue();
        whereAllCame();
        whereAllMinutesPassed();
        withFaultyTexts();
        withTextsThatAreStopped();
        withAFullText();
        whatIsTold();
        Check.end();
    }

    // ---- the twins

    private static void due(Supplier<UmbrellaQueue> made, String name, ToIntFunction<UmbrellaQueue> call, int answer) {
        UmbrellaQueue called = made.get();
        Check.due(name, call.applyAsInt(called), answer);
        dueAsTwin(name, called, made.get(), true);
    }

    private static void dueAsTwin(String name, UmbrellaQueue called, UmbrellaQueue twin, boolean withStop) {
        Check.holds(name + " changes nothing", allOf(called, withStop).equals(allOf(twin, withStop)));
    }

    /** All that an object holds. It is not what it was behind that: its states are undone, its text is performed. */
    private static String allOf(UmbrellaQueue x, boolean withStop) {
        StringBuilder all = new StringBuilder();
        if (withStop) {
            all.append(x.stopped(0)).append(' ').append(x.stopped(1)).append(' ');
        }
        all.append(x.count(16)).append(' ').append(x.count(17)).append(' ').append(Check.told(x));
        for (int i = 0; i < 5; i++) {
            all.append('\n').append(x.undo()).append(' ').append(Check.told(x));
        }
        all.append('\n').append(x.restore()).append(' ').append(Check.told(x));
        all.append('\n').append(x.perform()).append(' ').append(Check.told(x));
        all.append('\n').append(x.type('c')).append(' ').append(x.perform()).append(' ').append(x.clearText());
        return all.toString();
    }

    // ---- the objects

    /** Three people, wet and dry, with a full history, a snapshot of other people, a sound text and a stop. */
    private static UmbrellaQueue three() {
        UmbrellaQueue x = new UmbrellaQueue();
        x.come(100, 30, 1);
        x.come(200, 20, 0);
        x.come(300, 10, 4);
        x.keep();
        Check.perform(x, "c;x14");
        x.set(0, 4);
        x.gust(60, 1);
        x.letAhead(0);
        x.pass(1);
        Check.type(x, "g30<;.2;c;x");
        return x;
    }

    private static UmbrellaQueue full() {
        UmbrellaQueue x = Check.fullQueue();
        x.keep();
        x.gust(9, 2);
        x.pass(1);
        return x;
    }

    private static UmbrellaQueue allCame() {
        UmbrellaQueue x = Check.queueWhereAllCame();
        x.keep();
        Check.type(x, ".1");
        return x;
    }

    private static UmbrellaQueue allMinutes() {
        UmbrellaQueue x = Check.queue(0, 2);
        Check.passMinutes(x, 99999);
        x.gust(40, 0);
        x.keep();
        x.gust(5, 0);
        return x;
    }

    private static UmbrellaQueue wetterWithTheWider() {
        UmbrellaQueue x = Check.queue(2, 1);
        x.gust(2, 0);
        x.leave(1);
        x.come(999, 5, 1);
        return x;
    }

    private static UmbrellaQueue withText(String text) {
        UmbrellaQueue x = Check.queue(0, 1, 2);
        x.gust(20, 2);
        x.keep();
        x.gust(6, 1);
        Check.type(x, text);
        return x;
    }

    // ---- the calls

    private static void onANewObject() {
        Supplier<UmbrellaQueue> made = UmbrellaQueue::new;
        due(made, "come(9, 0, 0)", x -> x.come(9, 0, 0), -2);
        due(made, "come(10, -1, 0)", x -> x.come(10, -1, 0), -2);
        due(made, "come(10, 0, 6)", x -> x.come(10, 0, 6), -2);
        due(made, "leave(0)", x -> x.leave(0), -1);
        due(made, "letAhead(0)", x -> x.letAhead(0), -1);
        due(made, "swap(0)", x -> x.swap(0), -1);
        due(made, "set(0, 3)", x -> x.set(0, 3), -5);
        due(made, "set(1, 2)", x -> x.set(1, 2), -5);
        due(made, "set(2, 5)", x -> x.set(2, 5), -5);
        due(made, "set(3, 5)", x -> x.set(3, 5), -1);
        due(made, "set(1, 0)", x -> x.set(1, 0), -2);
        due(made, "gust(1, 0)", x -> x.gust(1, 0), -5);
        due(made, "gust(99, 2)", x -> x.gust(99, 2), -5);
        due(made, "gust(0, 0)", x -> x.gust(0, 0), -2);
        due(made, "pass(0)", x -> x.pass(0), -2);
        due(made, "serve()", x -> x.serve(), -5);
        due(made, "perform()", x -> x.perform(), -100);
        due(made, "stopped(0)", x -> x.stopped(0), -5);
        due(made, "stopped(2)", x -> x.stopped(2), -2);
        due(made, "undo()", x -> x.undo(), -5);
        due(made, "restore()", x -> x.restore(), -5);
        due(made, "clearText()", x -> x.clearText(), 0);
        due(made, "bestSwap(1, 0)", x -> x.bestSwap(1, 0), -5);
        due(made, "payer(0)", x -> x.payer(0), -5);
        due(made, "placeOf(0)", x -> x.placeOf(0), -5);
        due(made, "count(11)", x -> x.count(11), -5);
    }

    private static void onAQueueOfThree() {
        Supplier<UmbrellaQueue> made = NothingChangesTest::three;
        for (int place : new int[] {-1, 3, 15, 16, MIN, MAX}) {
            due(made, "leave(" + place + ")", x -> x.leave(place), -1);
            due(made, "letAhead(" + place + ")", x -> x.letAhead(place), -1);
            due(made, "swap(" + place + ")", x -> x.swap(place), -1);
        }
        due(made, "letAhead(2)", x -> x.letAhead(2), -1);
        due(made, "swap(2)", x -> x.swap(2), -1);
        due(made, "swap(0)", x -> x.swap(0), -12);
        for (int which = 0; which <= 2; which++) {
            int setting = which;
            int value = which == 0 ? 4 : which == 1 ? 2 : 5;
            due(made, "set(" + which + ", " + value + ")", x -> x.set(setting, value), -5);
            due(made, "set(" + which + ", -1)", x -> x.set(setting, -1), -2);
            due(made, "set(" + which + ", 100)", x -> x.set(setting, 100), -2);
        }
        due(made, "set(-1, 1)", x -> x.set(-1, 1), -1);
        due(made, "set(3, 1)", x -> x.set(3, 1), -1);
        for (int value : new int[] {0, 100, MIN, MAX}) {
            due(made, "gust(" + value + ", 0)", x -> x.gust(value, 0), -2);
            due(made, "pass(" + value + ")", x -> x.pass(value), -2);
        }
        due(made, "gust(5, -1)", x -> x.gust(5, -1), -2);
        due(made, "gust(5, 3)", x -> x.gust(5, 3), -2);
        due(made, "come(1000, 0, 0)", x -> x.come(1000, 0, 0), -2);
        due(made, "come(10, 10000, 0)", x -> x.come(10, 10000, 0), -2);
        due(made, "come(10, 0, -1)", x -> x.come(10, 0, -1), -2);
        due(made, "perform()", x -> x.perform(), -111);
        due(made, "stopped(-1)", x -> x.stopped(-1), -2);
    }

    private static void onAFullQueue() {
        Supplier<UmbrellaQueue> made = NothingChangesTest::full;
        due(made, "come(10, 0, 0)", x -> x.come(10, 0, 0), -3);
        due(made, "come(9, 0, 0)", x -> x.come(9, 0, 0), -2);
        due(made, "leave(16)", x -> x.leave(16), -1);
        due(made, "letAhead(15)", x -> x.letAhead(15), -1);
        due(made, "swap(15)", x -> x.swap(15), -1);
        due(made, "swap(14)", x -> x.swap(14), -11);
        due(made, "gust(100, 2)", x -> x.gust(100, 2), -2);
        due(made, "perform()", x -> x.perform(), -100);
        Supplier<UmbrellaQueue> wet = NothingChangesTest::wetterWithTheWider;
        due(wet, "swap(0)", x -> x.swap(0), -13);
        due(wet, "swap(0) twice", x -> x.swap(0) + x.swap(0), -26);
    }

    private static void whereAllCame() {
        due(NothingChangesTest::allCame, "come(10, 0, 0)", x -> x.come(10, 0, 0), -3);
        due(NothingChangesTest::allCame, "come(10, 0, 9)", x -> x.come(10, 0, 9), -2);
        due(NothingChangesTest::allCame, "gust(5, 0)", x -> x.gust(5, 0), -5);
        due(NothingChangesTest::allCame, "serve()", x -> x.serve(), -5);
        due(NothingChangesTest::allCame, "leave(0)", x -> x.leave(0), -1);
    }

    private static void whereAllMinutesPassed() {
        due(NothingChangesTest::allMinutes, "pass(1)", x -> x.pass(1), -3);
        due(NothingChangesTest::allMinutes, "pass(99)", x -> x.pass(99), -3);
        due(NothingChangesTest::allMinutes, "pass(100)", x -> x.pass(100), -2);
    }

    private static void withFaultyTexts() {
        String[] texts = {"", "q", "g", "g50;", "g50;c;x", "c;c;q", ".9;g0", "x0;x1;x16", "g99 "};
        for (String text : texts) {
            int answer = withText(text).perform();
            Check.holds("a fault of " + text, answer <= -100);
            due(() -> withText(text), "perform() of " + text, x -> x.perform(), answer);
        }
    }

    /** Only the latest stop may differ. */
    private static void withTextsThatAreStopped() {
        String[] texts = {"x2", "x15", "g9;x2", ".9;x3;c", "c;c;x0", "x1;x0;x9", "g99;g99;x9"};
        for (String text : texts) {
            UmbrellaQueue called = withText(text);
            Check.due("perform() of " + text, called.perform(), -4);
            Check.holds("it is a stop", called.stopped(1) == -1);
            dueAsTwin("perform() of " + text, called, withText(text), false);
        }
        UmbrellaQueue called = allMinutes();
        UmbrellaQueue twin = allMinutes();
        Check.type(twin, "g20;c;.1");
        Check.due("perform() of too many minutes", Check.perform(called, "g20;c;.1"), -4);
        Check.due("it is a stop", called.stopped(1), -3);
        dueAsTwin("perform() of too many minutes", called, twin, false);
    }

    private static void withAFullText() {
        String text = "g9;g9;g9;g9;g9;g9;g9;g9;g9;g9;g9;g9;g9;g9;g9;g9;g9;g9;g9;g99";
        Check.due("the length", withText(text).count(17), 60);
        for (char character : new char[] {'c', ';', '9', 0, 65535}) {
            due(() -> withText(text), "type() of the 61st", x -> x.type(character), -3);
        }
    }

    /** What is told changes nothing, be it a number, NONE or an error. */
    private static void whatIsTold() {
        Supplier<UmbrellaQueue> made = NothingChangesTest::three;
        UmbrellaQueue called = made.get();
        for (int place = -1; place <= 3; place++) {
            for (int what = -1; what <= 9; what++) {
                called.person(place, what);
                called.ifGust(place, 50, what % 4, what);
            }
            called.reason(place);
            called.bears(place, 20);
            called.placeOf(place);
            called.payer(place);
            called.stopped(place);
            called.bestSwap(20, place);
        }
        for (int what = -1; what <= 18; what++) {
            called.count(what);
        }
        dueAsTwin("what is told", called, made.get(), true);
    }
}
