import java.util.ArrayList;
import java.util.HashSet;
import java.util.List;
import java.util.Set;

/**
 * Long runs of calls against a second, plain writing of the document, with all that is told compared. The
 * model tests each place's reach by itself, keeps whole copies of states, and knows a text's fault by
 * listing all the things that there are.
 */
public final class ModelTest {
    private static final int RUNS = 400;
    private static final int CALLS = 400;

    private static final class Person implements Cloneable {
        int number;
        int wet;
        int patience;
        int coins;
        int width;
        int swaps;

        Person copy() {
            Person other = new Person();
            other.number = number;
            other.wet = wet;
            other.patience = patience;
            other.coins = coins;
            other.width = width;
            other.swaps = swaps;
            return other;
        }
    }

    private static final class Model {
        List<Person> people = new ArrayList<>();
        int[] settings = {3, 2, 5};
        int[] accounts = new int[10];
        List<Model> history = new ArrayList<>();
        Model snapshot;
        String text = "";
        int stopNumber = -5;
        int stopError = -5;

        Model copy() {
            Model other = new Model();
            other.take(this);
            return other;
        }

        void take(Model other) {
            people = new ArrayList<>();
            for (Person person : other.people) {
                people.add(person.copy());
            }
            settings = other.settings.clone();
            accounts = other.accounts.clone();
        }

        void record(Model before) {
            history.add(before);
            if (history.size() > 4) {
                history.remove(0);
            }
        }

        boolean reaches(int holder, int place) {
            int w = people.get(holder).width;
            if (w == 0 || place < 0 || place >= people.size()) {
                return false;
            }
            return place >= holder - w / 2 && place <= holder + (w - 1) / 2;
        }

        boolean reached(int place) {
            return over(place) > 0;
        }

        int over(int place) {
            int n = 0;
            for (int holder = 0; holder < people.size(); holder++) {
                n += reaches(holder, place) ? 1 : 0;
            }
            return n;
        }

        int[] span(int holder) {
            int least = -5;
            int greatest = -5;
            for (int place = people.size() - 1; place >= 0; place--) {
                if (reaches(holder, place)) {
                    least = place;
                    greatest = Math.max(greatest, place);
                }
            }
            return new int[] {least, greatest};
        }

        boolean covered(int place, int side) {
            return reached(place) || side == 1 && reached(place - 1) || side == 2 && reached(place + 1);
        }

        int running(int place) {
            int n = 0;
            for (int holder = 0; holder < people.size(); holder++) {
                int[] span = span(holder);
                if (people.get(holder).width > 0 && (span[0] - 1 == place || span[1] + 1 == place)) {
                    n++;
                }
            }
            return n;
        }

        int then(int place, int drops, int side) {
            int wet = people.get(place).wet + (covered(place, side) ? 0 : drops);
            for (int i = running(place); i > 0; i--) {
                wet += drops / 2;
            }
            return wet > 999 ? 999 : wet;
        }

        int total(int drops, int side) {
            int sum = 0;
            for (int place = 0; place < people.size(); place++) {
                sum += then(place, drops, side);
            }
            return sum;
        }

        boolean place(int place) {
            return place >= 0 && place < people.size();
        }

        boolean pair(int place) {
            return place(place) && place != people.size() - 1;
        }

        int why(int place) {
            Person a = people.get(place);
            Person b = people.get(place + 1);
            if (a.width == b.width) {
                return 1;
            }
            if (a.width == 0 && a.wet < b.wet + 50 || b.width == 0 && b.wet < a.wet + 50) {
                return 2;
            }
            return a.width > b.width && a.wet > b.wet || b.width > a.width && b.wet > a.wet ? 3 : 0;
        }

        // -- what changes

        int come(int patience, int coins, int width) {
            if (patience < 10 || patience > 999 || coins < 0 || coins > 9999 || width < 0 || width > 5) {
                return -2;
            }
            if (people.size() == 16 || accounts[1] == 200) {
                return -3;
            }
            Person person = new Person();
            person.number = accounts[1]++;
            person.patience = patience;
            person.coins = coins;
            person.width = width;
            people.add(person);
            return people.size() - 1;
        }

        int leave(int place) {
            if (!place(place)) {
                return -1;
            }
            accounts[2]++;
            return people.remove(place).wet;
        }

        int letAhead(int place) {
            if (!pair(place)) {
                return -1;
            }
            people.add(place, people.remove(place + 1));
            return people.get(place).number;
        }

        int swap(int place) {
            if (!pair(place)) {
                return -1;
            }
            if (why(place) > 0) {
                return -10 - why(place);
            }
            exchange(place);
            people.get(place).swaps++;
            people.get(place + 1).swaps++;
            accounts[7]++;
            return people.get(place).width;
        }

        void exchange(int place) {
            int width = people.get(place).width;
            people.get(place).width = people.get(place + 1).width;
            people.get(place + 1).width = width;
        }

        int set(int which, int value) {
            if (which < 0 || which > 2) {
                return -1;
            }
            if (value < (which == 1 ? 1 : 0) || value > (which == 0 ? 50 : which == 1 ? 4 : 99)) {
                return -2;
            }
            int before = settings[which];
            settings[which] = value;
            return before == value ? -5 : before;
        }

        int gust(int drops, int side) {
            if (drops < 1 || drops > 99 || side < 0 || side > 2) {
                return -2;
            }
            if (people.isEmpty()) {
                return -5;
            }
            List<Person> stay = new ArrayList<>();
            int[] wet = new int[people.size()];
            for (int place = 0; place < wet.length; place++) {
                wet[place] = then(place, drops, side);
            }
            for (int place = 0; place < wet.length; place++) {
                people.get(place).wet = wet[place];
                if (wet[place] <= people.get(place).patience) {
                    stay.add(people.get(place));
                }
            }
            accounts[3] += wet.length - stay.size();
            accounts[8]++;
            people = stay;
            return wet.length - stay.size();
        }

        int pass(int minutes) {
            if (minutes < 1 || minutes > 99) {
                return -2;
            }
            if (accounts[9] + minutes > 99999) {
                return -3;
            }
            accounts[9] += minutes;
            int dry = 0;
            for (Person person : people) {
                for (int i = 0; i < minutes; i++) {
                    person.wet = person.wet < settings[0] ? 0 : person.wet - settings[0];
                }
                dry += person.wet == 0 ? 1 : 0;
            }
            return dry;
        }

        int served() {
            return people.size() < settings[1] ? people.size() : settings[1];
        }

        int payer() {
            int payer = 0;
            for (int place = served() - 1; place >= 0; place--) {
                if (people.get(place).wet <= people.get(payer).wet) {
                    payer = place;
                }
            }
            return payer;
        }

        int pays() {
            int fare = served() * settings[2];
            int coins = people.get(payer()).coins;
            return fare > coins ? coins : fare;
        }

        int serve() {
            if (people.isEmpty()) {
                return -5;
            }
            int pays = pays();
            int served = served();
            accounts[4] += served;
            accounts[5] += pays;
            accounts[6] += served * settings[2] - pays;
            people = new ArrayList<>(people.subList(served, people.size()));
            return pays;
        }

        int perform() {
            int fault = fault(text);
            if (fault >= 0) {
                return -100 - fault;
            }
            Model before = copy();
            String[] things = text.split(";");
            for (int i = 0; i < things.length; i++) {
                int answer = happen(things[i]);
                if (answer < 0 && answer > -5) {
                    take(before);
                    stopNumber = i;
                    stopError = answer;
                    return -4;
                }
            }
            return things.length;
        }

        int happen(String thing) {
            char kind = thing.charAt(0);
            if (kind == 'c') {
                return serve();
            }
            int number = Integer.parseInt(thing.substring(1).replace("<", "").replace(">", ""));
            if (kind == 'x') {
                return swap(number);
            }
            return kind == '.' ? pass(number) : gust(number, thing.endsWith("<") ? 1 : thing.endsWith(">") ? 2 : 0);
        }

        // -- what is told

        int person(int place, int what) {
            if (!place(place)) {
                return -1;
            }
            if (what < 0 || what > 8) {
                return -2;
            }
            Person p = people.get(place);
            int[] span = span(place);
            return new int[] {p.number, p.wet, p.patience, p.coins, p.width, span[0], span[1], over(place),
                p.swaps}[what];
        }

        int ifGust(int place, int drops, int side, int what) {
            if (!place(place)) {
                return -1;
            }
            if (drops < 1 || drops > 99 || side < 0 || side > 2 || what < 0 || what > 3) {
                return -2;
            }
            int then = then(place, drops, side);
            return new int[] {covered(place, side) ? 1 : 0, running(place), then,
                then > people.get(place).patience ? 1 : 0}[what];
        }

        int bestSwap(int drops, int side) {
            if (drops < 1 || drops > 99 || side < 0 || side > 2) {
                return -2;
            }
            int best = -5;
            int least = total(drops, side);
            for (int place = 0; place + 1 < people.size(); place++) {
                if (why(place) == 0) {
                    Model other = copy();
                    other.exchange(place);
                    if (other.total(drops, side) < least) {
                        least = other.total(drops, side);
                        best = place;
                    }
                }
            }
            return best;
        }

        int bears(int place, int drops) {
            if (!place(place)) {
                return -1;
            }
            if (drops < 1 || drops > 99) {
                return -2;
            }
            Model other = copy();
            for (int gusts = 0; gusts <= 1000; gusts++) {
                int then = other.then(place, drops, 0);
                if (then > people.get(place).patience) {
                    return gusts;
                }
                other.people.get(place).wet = then;
            }
            return -5;
        }

        int count(int what) {
            int wet = 0;
            int wettest = -5;
            int bare = 0;
            for (int place = people.size() - 1; place >= 0; place--) {
                wet += people.get(place).wet;
                bare += reached(place) ? 0 : 1;
                if (wettest < 0 || people.get(place).wet >= people.get(wettest).wet) {
                    wettest = place;
                }
            }
            if (what < 0 || what > 17) {
                return -2;
            }
            if (what > 0 && what < 10) {
                return accounts[what];
            }
            return what == 0 ? people.size() : new int[] {wet, wettest, bare, settings[0], settings[1], settings[2],
                history.size(), text.length()}[what - 10];
        }
    }

    // ---- faults

    private static final Set<String> THINGS = things();
    private static final Set<String> BEGINNINGS = beginnings();

    private static Set<String> things() {
        Set<String> all = new HashSet<>();
        all.add("c");
        for (int i = 1; i <= 99; i++) {
            all.add("g" + i);
            all.add("g" + i + "<");
            all.add("g" + i + ">");
            all.add("." + i);
        }
        for (int i = 0; i <= 15; i++) {
            all.add("x" + i);
        }
        return all;
    }

    private static Set<String> beginnings() {
        Set<String> all = new HashSet<>();
        for (String thing : THINGS) {
            for (int i = 0; i <= thing.length(); i++) {
                all.add(thing.substring(0, i));
            }
        }
        return all;
    }

    private static int fault(String text) {
        for (int i = 0; i <= text.length(); i++) {
            String[] pieces = text.substring(0, i).split(";", -1);
            for (int k = 0; k < pieces.length - 1; k++) {
                if (!THINGS.contains(pieces[k])) {
                    return i - 1;
                }
            }
            if (!BEGINNINGS.contains(pieces[pieces.length - 1])) {
                return i - 1;
            }
            if (i == text.length() && !THINGS.contains(pieces[pieces.length - 1])) {
                return i;
            }
        }
        return -1;
    }

    // ---- numbers in an order that looks like none, and is always the same

    private static long seed;

    private static int any(int bound) {
        seed = seed * 6364136223846793005L + 1442695040888963407L;
        return (int) ((seed >>> 33) % bound);
    }

    private static int near(int least, int most) {
        int r = any(40);
        if (r == 0) {
            return least - 1;
        }
        if (r == 1) {
            return most + 1;
        }
        if (r == 2) {
            return any(2) == 0 ? Integer.MIN_VALUE : Integer.MAX_VALUE;
        }
        if (r < 6) {
            return r == 3 ? least : most;
        }
        return least + any(most - least + 1);
    }

    private static int somePlace(Model m) {
        return near(0, Math.max(0, m.people.size() - 1));
    }

    private static String someText() {
        StringBuilder text = new StringBuilder();
        int things = 1 + any(any(4) == 0 ? 24 : 6);
        for (int i = 0; i < things; i++) {
            text.append(i == 0 ? "" : ";");
            int kind = any(8);
            if (kind < 3) {
                text.append('g').append(1 + any(any(2) == 0 ? 9 : 99)).append(new String[] {"", "<", ">"}[any(3)]);
            } else if (kind < 5) {
                text.append('.').append(1 + any(99));
            } else {
                text.append(kind == 5 ? "c" : "x" + any(any(8) == 0 ? 16 : 5));
            }
        }
        if (any(5) == 0) {
            int at = any(text.length());
            text.setCharAt(at, "g.cx0123456789<>; y".charAt(any(19)));
        }
        return text.toString();
    }

    // ---- runs

    private static int act(int kind, UmbrellaQueue x, Model m) {
        int a;
        int b;
        int c;
        Model before = m.copy();
        int want;
        int got;
        switch (kind) {
            case 0:
            case 1:
            case 2:
                a = any(3) == 0 ? near(10, 999) : near(10, 200);
                b = any(2) == 0 ? near(0, 9999) : near(0, 30);
                c = near(0, 5);
                want = m.come(a, b, c);
                got = x.come(a, b, c);
                break;
            case 3:
                a = somePlace(m);
                want = m.leave(a);
                got = x.leave(a);
                break;
            case 4:
                a = somePlace(m);
                want = m.letAhead(a);
                got = x.letAhead(a);
                break;
            case 5:
            case 6:
                a = somePlace(m);
                want = m.swap(a);
                got = x.swap(a);
                break;
            case 7:
                a = near(0, 2);
                b = near(a == 1 ? 1 : 0, a == 0 ? 50 : a == 1 ? 4 : 99);
                want = m.set(a, b);
                got = x.set(a, b);
                break;
            case 8:
            case 9:
                a = any(2) == 0 ? near(1, 99) : near(1, 9);
                b = near(0, 2);
                want = m.gust(a, b);
                got = x.gust(a, b);
                break;
            case 10:
                a = any(2) == 0 ? near(1, 99) : near(1, 5);
                want = m.pass(a);
                got = x.pass(a);
                break;
            case 11:
                want = m.serve();
                got = x.serve();
                break;
            case 12:
                want = m.snapshot == null ? -5 : m.snapshot.people.size();
                if (m.snapshot != null) {
                    m.take(m.snapshot);
                }
                got = x.restore();
                break;
            default:
                want = m.perform();
                got = x.perform();
                break;
        }
        if (want >= 0) {
            m.record(before);
        }
        Check.due("act " + kind, got, want);
        return got;
    }

    private static void otherCall(UmbrellaQueue x, Model m) {
        int kind = any(6);
        if (kind == 0) {
            Check.due("keep()", x.keep(), m.people.size());
            m.snapshot = m.copy();
        } else if (kind < 3) {
            int want = m.history.size() - 1;
            if (want >= 0) {
                m.take(m.history.remove(want));
            }
            Check.due("undo()", x.undo(), want < 0 ? -5 : want);
        } else {
            Check.due("clearText()", x.clearText(), m.text.length());
            m.text = "";
            String text = someText();
            for (int i = 0; i < text.length(); i++) {
                boolean full = m.text.length() == 60;
                m.text = full ? m.text : m.text + text.charAt(i);
                Check.due("type()", x.type(text.charAt(i)), full ? -3 : m.text.length());
            }
        }
    }

    private static void compare(UmbrellaQueue x, Model m) {
        for (int what = -1; what <= 18; what++) {
            Check.due("count(" + what + ")", x.count(what), m.count(what));
        }
        for (int what = 0; what < 2; what++) {
            Check.due("stopped(" + what + ")", x.stopped(what), what == 0 ? m.stopNumber : m.stopError);
            int want = m.people.isEmpty() ? -5 : what == 0 ? m.payer() : m.pays();
            Check.due("payer(" + what + ")", x.payer(what), want);
        }
        int drops = near(1, 99);
        int side = near(0, 2);
        Check.due("bestSwap()", x.bestSwap(drops, side), m.bestSwap(drops, side));
        for (int place = -1; place <= m.people.size(); place++) {
            for (int what = -1; what <= 9; what++) {
                Check.due("person(" + place + ", " + what + ")", x.person(place, what), m.person(place, what));
            }
            for (int what = -1; what <= 4; what++) {
                Check.due("ifGust()", x.ifGust(place, drops, side, what), m.ifGust(place, drops, side, what));
            }
            Check.due("bears()", x.bears(place, drops), m.bears(place, drops));
            Check.due("reason(" + place + ")", x.reason(place), m.pair(place) ? m.why(place) : -1);
        }
        int number = any(30);
        int want = -5;
        for (int place = 0; place < m.people.size(); place++) {
            want = m.people.get(place).number == number ? place : want;
        }
        Check.due("placeOf(" + number + ")", x.placeOf(number), want);
    }

    public static void main(String[] args) {
        for (int run = 1; run <= RUNS && !Check.anyWrong(); run++) {
            seed = run;
            int watched = any(2);
            UmbrellaQueue x = new UmbrellaQueue();
            Model m = new Model();
            for (int call = 0; call < CALLS && !Check.anyWrong(); call++) {
                if (any(6) == 0) {
                    otherCall(x, m);
                } else {
                    act(any(run % 3 == 0 ? 10 : 16), x, m);
                }
                // Now and then nothing is asked for a while: what is told must not be what keeps the state right.
                if (watched == 0 || any(20) == 0) {
                    compare(x, m);
                }
                if (Check.anyWrong()) {
                    System.out.println("in run " + run + " at call " + call + ", text " + m.text);
                }
            }
        }
        Check.end();
    }
}
