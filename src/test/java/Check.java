/** Counts the answers that are not due; each test ends with end(). */
final class Check {
    private static int asked = 0;
    private static int wrong = 0;
    private static final long MOST_MILLISECONDS = 300_000;

    static {
        // A call that never ends must fail the test, not keep CI waiting.
        Thread watch = new Thread(Check::endLate);
        watch.setDaemon(true);
        watch.start();
    }

    private Check() {
    }

    private static void endLate() {
        try {
            Thread.sleep(MOST_MILLISECONDS);
        } catch (InterruptedException interrupted) {
            return;
        }
        System.out.println("a call does not end");
        Runtime.getRuntime().halt(1);
    }

    static void due(String call, long got, long want) {
        asked++;
        if (got != want) {
            wrong++;
            System.out.println(call + " answered " + got + ", due is " + want);
        }
    }

    static void holds(String claim, boolean truth) {
        due(claim, truth ? 1 : 0, 1);
    }

    static boolean anyWrong() {
        return wrong > 0;
    }

    static void end() {
        System.out.println(asked + " answers, " + wrong + " of them not as due");
        if (wrong > 0 || asked == 0) {
            System.exit(1);
        }
    }

    /** A queue of dry people with a patience of 999 and 100 coins, with umbrellas of these widths. */
    static UmbrellaQueue queue(int... widths) {
        UmbrellaQueue queue = new UmbrellaQueue();
        for (int width : widths) {
            queue.come(999, 100, width);
        }
        return queue;
    }

    /** Sixteen people, dry, of a patience of 999, 100 coins and umbrellas of the width 1. */
    static UmbrellaQueue fullQueue() {
        return queue(1, 1, 1, 1, 1, 1, 1, 1, 1, 1, 1, 1, 1, 1, 1, 1);
    }

    /** A queue that is empty, to which 200 people came; its history holds four states. */
    static UmbrellaQueue queueWhereAllCame() {
        UmbrellaQueue queue = new UmbrellaQueue();
        for (int i = 0; i < 200; i++) {
            queue.come(100, 0, 1);
            queue.leave(0);
        }
        return queue;
    }

    /** Lets so many minutes pass, up to 99999; the text is empty behind that. */
    static void passMinutes(UmbrellaQueue queue, int minutes) {
        int left = minutes;
        type(queue, ".99;.99;.99;.99;.99;.99;.99;.99;.99;.99;.99;.99;.99;.99;.99");
        while (left >= 15 * 99) {
            queue.perform();
            left -= 15 * 99;
        }
        while (left > 0) {
            queue.pass(Math.min(99, left));
            left -= Math.min(99, left);
        }
        queue.clearText();
    }

    static void type(UmbrellaQueue queue, String text) {
        queue.clearText();
        for (int i = 0; i < text.length(); i++) {
            queue.type(text.charAt(i));
        }
    }

    static int perform(UmbrellaQueue queue, String text) {
        type(queue, text);
        return queue.perform();
    }

    /** All that is told of the state, in one text. */
    static String told(UmbrellaQueue queue) {
        StringBuilder all = new StringBuilder();
        for (int what = 0; what <= 15; what++) {
            all.append(queue.count(what)).append(' ');
        }
        for (int place = 0; place < queue.count(0); place++) {
            for (int what = 0; what <= 8; what++) {
                all.append(queue.person(place, what)).append(' ');
            }
        }
        return all.toString();
    }
}
