/**
 * Each method with all sorts of arguments, in all sorts of states: none throws, and below 0 each answers nothing but
 * what its line "Returns .." names.
 */
public final class AnyArgumentsTest {
    private static final int[] ANY = {Integer.MIN_VALUE, Integer.MIN_VALUE + 1, -2, -1, 0, 1, 2, 3, 4, 5, 9, 14, 15, 16,
        50, 99, 100, 199, 200, 999, 1000, 65536, Integer.MAX_VALUE - 1, Integer.MAX_VALUE};

    public static void main(String[] args) {
        for (int kind = 0; kind < 5; kind++) {
            whatIsTold(made(kind), ANY);
            UmbrellaQueue x = made(kind);
            actsOfOneArgument(x);
            whatIsTold(x, ANY);
            UmbrellaQueue y = made(kind);
            actsOfMoreArguments(y);
            whatIsTold(y, ANY);
        }
        eachText();
        Check.end();
    }

    private static UmbrellaQueue made(int kind) {
        switch (kind) {
            case 0:
                return new UmbrellaQueue();
            case 1:
                return Check.fullQueue();
            case 2:
                return Check.queueWhereAllCame();
            case 3:
                UmbrellaQueue late = Check.queue(5, 0, 3);
                Check.passMinutes(late, 99999);
                return late;
            default:
                UmbrellaQueue some = Check.queue(0, 1, 2, 3, 4, 5);
                some.gust(99, 1);
                some.keep();
                Check.perform(some, "x5");
                return some;
        }
    }

    /** At least 0, or one of these. */
    private static void among(String call, int answer, int... errors) {
        boolean isOne = answer >= 0;
        for (int error : errors) {
            isOne |= answer == error;
        }
        Check.holds(call + " answered " + answer, isOne);
    }

    private static void performed(UmbrellaQueue x, int length) {
        int answer = x.perform();
        boolean isFault = answer <= -100 && answer >= -100 - length;
        Check.holds("perform() answered " + answer, isFault || answer == -4 || answer > 0);
    }

    private static void actsOfOneArgument(UmbrellaQueue x) {
        for (int any : ANY) {
            among("pass", x.pass(any), -2, -3);
            among("letAhead", x.letAhead(any), -1);
            among("swap", x.swap(any), -1, -11, -12, -13);
            among("type", x.type((char) any), -3);
            // The error that is told may be one of perform()'s stops.
            among("stopped", x.stopped(any), -2, -5, -1, -3);
            performed(x, 60);
            among("leave", x.leave(any), -1);
            among("restore", x.restore(), -5);
            among("keep", x.keep());
            among("serve", x.serve(), -5);
            among("undo", x.undo(), -5);
        }
        among("clearText", x.clearText());
        performed(x, 0);
    }

    private static void actsOfMoreArguments(UmbrellaQueue x) {
        for (int a : ANY) {
            for (int b : ANY) {
                among("set", x.set(a, b), -1, -2, -5);
                among("gust", x.gust(a, b), -2, -5);
            }
        }
        for (int a : ANY) {
            for (int b : ANY) {
                for (int c : ANY) {
                    among("come", x.come(a, b, c), -2, -3);
                }
            }
        }
    }

    private static void whatIsTold(UmbrellaQueue x, int[] any) {
        for (int a : any) {
            among("placeOf", x.placeOf(a), -2, -5);
            among("reason", x.reason(a), -1);
            among("payer", x.payer(a), -2, -5);
            among("count", x.count(a), -2, -5);
            for (int b : any) {
                among("person", x.person(a, b), -1, -2, -5);
                among("bestSwap", x.bestSwap(a, b), -2, -5);
                among("bears", x.bears(a, b), -1, -2, -5);
                for (int c : any) {
                    for (int d = -1; d <= 4; d++) {
                        among("ifGust", x.ifGust(a, b, c, d), -1, -2);
                    }
                }
            }
        }
    }

    /** All texts of up to four of these characters. */
    private static void eachText() {
        String signs = "g.cx019<>;q";
        for (int length = 0; length <= 4; length++) {
            int texts = (int) Math.pow(signs.length(), length);
            for (int text = 0; text < texts; text++) {
                UmbrellaQueue x = Check.queue(0, 1);
                for (int i = 0, rest = text; i < length; i++, rest /= signs.length()) {
                    x.type(signs.charAt(rest % signs.length()));
                }
                performed(x, length);
            }
        }
    }
}
