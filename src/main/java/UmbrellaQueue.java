/** A rainy queue in which umbrellas are swapped and the driest pays. */
public final class UmbrellaQueue {
    public static final int UNKNOWN = -1;
    public static final int BAD_VALUE = -2;
    public static final int FULL = -3;
    public static final int NOT_POSSIBLE = -4;
    public static final int NONE = -5;
    public static final int REFUSED = -10;

    private static final int FAULT = -100;
    private static final int MOST_PEOPLE = 16;
    private static final int MOST_EVER = 200;
    private static final int MOST_WET = 999;
    private static final int MOST_DROPS = 99;
    private static final int MOST_MINUTES_AT_ONCE = 99;
    private static final int MOST_MINUTES = 99999;
    private static final int WETTER_TO_BE_LIKED = 50;

    private static final int FROM_AHEAD = 1;
    private static final int FROM_BEHIND = 2;

    private static final int DRYING = 0;
    private static final int SERVED_AT_ONCE = 1;
    private static final int FARE = 2;
    private static final int[] LEAST_SETTING = {0, 1, 0};
    private static final int[] MOST_SETTING = {50, 4, 99};

    private final State now = new State();
    private final State snapshot = new State();
    private final History history = new History();
    private final Weather weather = new Weather();
    private boolean hasSnapshot;
    private int stopNumber;
    private int stopError;

    public UmbrellaQueue() {
        stopNumber = NONE;
        stopError = NONE;
    }

    // ---- people

    public int come(int patience, int coins, int width) {
        history.draft(now);
        return recorded(now.admit(patience, coins, width));
    }

    public int leave(int place) {
        history.draft(now);
        return recorded(now.dismiss(place));
    }

    public int letAhead(int place) {
        history.draft(now);
        return recorded(now.changePlaces(place));
    }

    public int swap(int place) {
        history.draft(now);
        return recorded(now.swapUmbrellas(place));
    }

    public int set(int which, int value) {
        history.draft(now);
        return recorded(now.changeSetting(which, value));
    }

    // ---- weather, the counter

    public int gust(int drops, int side) {
        history.draft(now);
        return recorded(now.rain(drops, side));
    }

    public int pass(int minutes) {
        history.draft(now);
        return recorded(now.dry(minutes));
    }

    public int serve() {
        history.draft(now);
        return recorded(now.serveFirst());
    }

    // ---- texts

    public int type(char character) {
        return weather.append(character);
    }

    public int clearText() {
        return weather.empty();
    }

    public int perform() {
        int fault = weather.read();
        if (fault >= 0) {
            return FAULT - fault;
        }
        history.draft(now);
        for (int i = 0; i < weather.things; i++) {
            int answer = happen(weather.kinds[i], weather.amounts[i], weather.sides[i]);
            if (isStop(answer)) {
                now.copyFrom(history.drafted());
                stopNumber = i;
                stopError = answer;
                return NOT_POSSIBLE;
            }
        }
        return recorded(weather.things);
    }

    public int stopped(int what) {
        switch (what) {
            case 0:
                return stopNumber;
            case 1:
                return stopError;
            default:
                return BAD_VALUE;
        }
    }

    // ---- history

    public int undo() {
        if (history.depth == 0) {
            return NONE;
        }
        now.copyFrom(history.takeLatest());
        return history.depth;
    }

    public int keep() {
        snapshot.copyFrom(now);
        hasSnapshot = true;
        return now.size;
    }

    public int restore() {
        if (!hasSnapshot) {
            return NONE;
        }
        history.draft(now);
        now.copyFrom(snapshot);
        return recorded(now.size);
    }

    // ---- what is told

    public int person(int place, int what) {
        if (!now.isPlace(place)) {
            return UNKNOWN;
        }
        switch (what) {
            case 0:
                return now.numbers[place];
            case 1:
                return now.wetness[place];
            case 2:
                return now.patience[place];
            case 3:
                return now.coins[place];
            case 4:
                return now.widths[place];
            case 5:
                return now.widths[place] == 0 ? NONE : now.leastReached(place);
            case 6:
                return now.widths[place] == 0 ? NONE : now.greatestReached(place);
            case 7:
                return now.umbrellasOver(place);
            case 8:
                return now.swapped[place];
            default:
                return BAD_VALUE;
        }
    }

    public int placeOf(int number) {
        if (!isWithin(number, 0, MOST_EVER - 1)) {
            return BAD_VALUE;
        }
        for (int place = 0; place < now.size; place++) {
            if (now.numbers[place] == number) {
                return place;
            }
        }
        return NONE;
    }

    public int ifGust(int place, int drops, int side, int what) {
        if (!now.isPlace(place)) {
            return UNKNOWN;
        }
        if (!isGust(drops, side)) {
            return BAD_VALUE;
        }
        switch (what) {
            case 0:
                return now.isCovered(place, side) ? 1 : 0;
            case 1:
                return now.umbrellasRunningOnto(place);
            case 2:
                return now.wetnessAfter(place, drops, side);
            case 3:
                return now.wetnessAfter(place, drops, side) > now.patience[place] ? 1 : 0;
            default:
                return BAD_VALUE;
        }
    }

    public int reason(int place) {
        return now.hasNeighbour(place) ? now.refusal(place) : UNKNOWN;
    }

    public int bestSwap(int drops, int side) {
        return isGust(drops, side) ? now.driestSwap(drops, side) : BAD_VALUE;
    }

    public int payer(int what) {
        if (!isWithin(what, 0, 1)) {
            return BAD_VALUE;
        }
        if (now.size == 0) {
            return NONE;
        }
        int place = now.driestToServe();
        return what == 0 ? place : now.paidFrom(place);
    }

    public int bears(int place, int drops) {
        if (!now.isPlace(place)) {
            return UNKNOWN;
        }
        if (!isWithin(drops, 1, MOST_DROPS)) {
            return BAD_VALUE;
        }
        return now.gustsBorne(place, drops);
    }

    public int count(int what) {
        switch (what) {
            case 0:
                return now.size;
            case 1:
                return now.came;
            case 2:
                return now.left;
            case 3:
                return now.soaked;
            case 4:
                return now.served;
            case 5:
                return now.paid;
            case 6:
                return now.unpaid;
            case 7:
                return now.swaps;
            case 8:
                return now.gusts;
            case 9:
                return now.minutes;
            case 10:
                return now.totalWetness();
            case 11:
                return now.wettest();
            case 12:
                return now.placesUnreached();
            case 13:
                return now.settings[DRYING];
            case 14:
                return now.settings[SERVED_AT_ONCE];
            case 15:
                return now.settings[FARE];
            case 16:
                return history.depth;
            case 17:
                return weather.length;
            default:
                return BAD_VALUE;
        }
    }

    // ---- helpers

    /** Acts answer below 0 for errors and NONE alone: then the draft stays a draft. */
    private int recorded(int answer) {
        if (answer >= 0) {
            history.keepDraft();
        }
        return answer;
    }

    private int happen(char kind, int amount, int side) {
        if (kind == Weather.GUST) {
            return now.rain(amount, side);
        }
        if (kind == Weather.MINUTES) {
            return now.dry(amount);
        }
        if (kind == Weather.COUNTER) {
            return now.serveFirst();
        }
        return now.swapUmbrellas(amount);
    }

    /** Neither NONE nor a refusal stops the weather, though both are below 0. */
    private static boolean isStop(int answer) {
        return isWithin(answer, NOT_POSSIBLE, UNKNOWN);
    }

    private static boolean isGust(int drops, int side) {
        return isWithin(drops, 1, MOST_DROPS) && isWithin(side, 0, FROM_BEHIND);
    }

    private static boolean isWithin(int value, int least, int most) {
        return value >= least && value <= most;
    }

    /** All that undo() and restore() bring back. One row for each thing told of a person, by the place. */
    private static final class State {
        final int[] numbers = new int[MOST_PEOPLE];
        final int[] wetness = new int[MOST_PEOPLE];
        final int[] patience = new int[MOST_PEOPLE];
        final int[] coins = new int[MOST_PEOPLE];
        final int[] widths = new int[MOST_PEOPLE];
        final int[] swapped = new int[MOST_PEOPLE];
        final int[] settings = {3, 2, 5};
        int size;
        int came;
        int left;
        int soaked;
        int served;
        int paid;
        int unpaid;
        int swaps;
        int gusts;
        int minutes;

        void copyFrom(State other) {
            System.arraycopy(other.numbers, 0, numbers, 0, MOST_PEOPLE);
            System.arraycopy(other.wetness, 0, wetness, 0, MOST_PEOPLE);
            System.arraycopy(other.patience, 0, patience, 0, MOST_PEOPLE);
            System.arraycopy(other.coins, 0, coins, 0, MOST_PEOPLE);
            System.arraycopy(other.widths, 0, widths, 0, MOST_PEOPLE);
            System.arraycopy(other.swapped, 0, swapped, 0, MOST_PEOPLE);
            System.arraycopy(other.settings, 0, settings, 0, settings.length);
            size = other.size;
            came = other.came;
            left = other.left;
            soaked = other.soaked;
            served = other.served;
            paid = other.paid;
            unpaid = other.unpaid;
            swaps = other.swaps;
            gusts = other.gusts;
            minutes = other.minutes;
        }

        boolean isPlace(int place) {
            return place >= 0 && place < size;
        }

        boolean hasNeighbour(int place) {
            return place >= 0 && place < size - 1;
        }

        // -- acts: each answers as the call of the face does, and changes nothing if that is below 0

        int admit(int itsPatience, int itsCoins, int itsWidth) {
            if (!isWithin(itsPatience, 10, 999) || !isWithin(itsCoins, 0, 9999) || !isWithin(itsWidth, 0, 5)) {
                return BAD_VALUE;
            }
            if (size >= MOST_PEOPLE || came >= MOST_EVER) {
                return FULL;
            }
            int place = size;
            numbers[place] = came;
            wetness[place] = 0;
            patience[place] = itsPatience;
            coins[place] = itsCoins;
            widths[place] = itsWidth;
            swapped[place] = 0;
            size++;
            came++;
            return place;
        }

        int dismiss(int place) {
            if (!isPlace(place)) {
                return UNKNOWN;
            }
            int itsWetness = wetness[place];
            remove(place);
            left++;
            return itsWetness;
        }

        int changePlaces(int place) {
            if (!hasNeighbour(place)) {
                return UNKNOWN;
            }
            exchange(numbers, place);
            exchange(wetness, place);
            exchange(patience, place);
            exchange(coins, place);
            exchange(widths, place);
            exchange(swapped, place);
            return numbers[place];
        }

        int swapUmbrellas(int place) {
            if (!hasNeighbour(place)) {
                return UNKNOWN;
            }
            int reason = refusal(place);
            if (reason != 0) {
                return REFUSED - reason;
            }
            exchange(widths, place);
            swapped[place]++;
            swapped[place + 1]++;
            swaps++;
            return widths[place];
        }

        int changeSetting(int which, int value) {
            if (!isWithin(which, DRYING, FARE)) {
                return UNKNOWN;
            }
            if (!isWithin(value, LEAST_SETTING[which], MOST_SETTING[which])) {
                return BAD_VALUE;
            }
            int previous = settings[which];
            if (previous == value) {
                return NONE;
            }
            settings[which] = value;
            return previous;
        }

        int rain(int drops, int side) {
            if (!isGust(drops, side)) {
                return BAD_VALUE;
            }
            if (size == 0) {
                return NONE;
            }
            for (int place = 0; place < size; place++) {
                wetness[place] = wetnessAfter(place, drops, side);
            }
            gusts++;
            return removeSoaked();
        }

        int dry(int itsMinutes) {
            if (!isWithin(itsMinutes, 1, MOST_MINUTES_AT_ONCE)) {
                return BAD_VALUE;
            }
            if (minutes + itsMinutes > MOST_MINUTES) {
                return FULL;
            }
            minutes += itsMinutes;
            int dryPeople = 0;
            for (int place = 0; place < size; place++) {
                wetness[place] = Math.max(0, wetness[place] - itsMinutes * settings[DRYING]);
                if (wetness[place] == 0) {
                    dryPeople++;
                }
            }
            return dryPeople;
        }

        int serveFirst() {
            if (size == 0) {
                return NONE;
            }
            int people = peopleToServe();
            int coinsPaid = paidFrom(driestToServe());
            paid += coinsPaid;
            unpaid += fareForAll() - coinsPaid;
            served += people;
            for (int place = people - 1; place >= 0; place--) {
                remove(place);
            }
            return coinsPaid;
        }

        private int removeSoaked() {
            int before = size;
            // From behind, as those who come on from there have been looked at already.
            for (int place = size - 1; place >= 0; place--) {
                if (wetness[place] > patience[place]) {
                    remove(place);
                }
            }
            soaked += before - size;
            return before - size;
        }

        private void remove(int place) {
            closeGap(numbers, place);
            closeGap(wetness, place);
            closeGap(patience, place);
            closeGap(coins, place);
            closeGap(widths, place);
            closeGap(swapped, place);
            size--;
        }

        private static void closeGap(int[] row, int place) {
            System.arraycopy(row, place + 1, row, place, MOST_PEOPLE - 1 - place);
        }

        private static void exchange(int[] row, int place) {
            int ahead = row[place];
            row[place] = row[place + 1];
            row[place + 1] = ahead;
        }

        // -- umbrellas

        /** For a place with an umbrella alone. */
        int leastReached(int place) {
            return Math.max(0, place - widths[place] / 2);
        }

        /** For a place with an umbrella alone. */
        int greatestReached(int place) {
            return Math.min(size - 1, place + (widths[place] - 1) / 2);
        }

        int umbrellasOver(int place) {
            int umbrellas = 0;
            for (int holder = 0; holder < size; holder++) {
                if (widths[holder] > 0 && isWithin(place, leastReached(holder), greatestReached(holder))) {
                    umbrellas++;
                }
            }
            return umbrellas;
        }

        int umbrellasRunningOnto(int place) {
            int umbrellas = 0;
            for (int holder = 0; holder < size; holder++) {
                if (widths[holder] > 0
                        && (place == leastReached(holder) - 1 || place == greatestReached(holder) + 1)) {
                    umbrellas++;
                }
            }
            return umbrellas;
        }

        int placesUnreached() {
            int places = 0;
            for (int place = 0; place < size; place++) {
                if (umbrellasOver(place) == 0) {
                    places++;
                }
            }
            return places;
        }

        // -- gusts

        boolean isCovered(int place, int side) {
            int first = side == FROM_AHEAD ? place - 1 : place;
            int last = side == FROM_BEHIND ? place + 1 : place;
            for (int holder = 0; holder < size; holder++) {
                if (widths[holder] > 0 && leastReached(holder) <= last && greatestReached(holder) >= first) {
                    return true;
                }
            }
            return false;
        }

        int wetnessAfter(int place, int drops, int side) {
            return Math.min(MOST_WET, wetness[place] + wetterBy(place, drops, side));
        }

        private int wetterBy(int place, int drops, int side) {
            int runningOff = umbrellasRunningOnto(place) * (drops / 2);
            return isCovered(place, side) ? runningOff : runningOff + drops;
        }

        int gustsBorne(int place, int drops) {
            int more = wetterBy(place, drops, 0);
            // Nobody is wetter than MOST_WET, so a patience as great is never passed.
            if (more <= 0 || patience[place] >= MOST_WET) {
                return NONE;
            }
            return (patience[place] - wetness[place]) / more;
        }

        private int totalWetnessAfter(int drops, int side) {
            int total = 0;
            for (int place = 0; place < size; place++) {
                total += wetnessAfter(place, drops, side);
            }
            return total;
        }

        // -- swaps

        /** For a place with a neighbour behind alone; 0 if nothing speaks against the swap. */
        int refusal(int place) {
            int width = widths[place];
            int widthBehind = widths[place + 1];
            if (width == widthBehind) {
                return 1;
            }
            int wider = width > widthBehind ? place : place + 1;
            int narrower = width > widthBehind ? place + 1 : place;
            int wetterWithWider = wetness[wider] - wetness[narrower];
            if (widths[narrower] == 0 && -wetterWithWider < WETTER_TO_BE_LIKED) {
                return 2;
            }
            return wetterWithWider > 0 ? 3 : 0;
        }

        int driestSwap(int drops, int side) {
            int best = NONE;
            int least = totalWetnessAfter(drops, side);
            for (int place = 0; place < size - 1; place++) {
                if (refusal(place) == 0) {
                    exchange(widths, place);
                    int total = totalWetnessAfter(drops, side);
                    exchange(widths, place);
                    if (total < least) {
                        least = total;
                        best = place;
                    }
                }
            }
            return best;
        }

        // -- the counter

        private int peopleToServe() {
            return Math.min(size, settings[SERVED_AT_ONCE]);
        }

        private int fareForAll() {
            return peopleToServe() * settings[FARE];
        }

        int driestToServe() {
            int people = peopleToServe();
            int driest = 0;
            for (int place = 1; place < people; place++) {
                if (wetness[place] < wetness[driest]) {
                    driest = place;
                }
            }
            return driest;
        }

        int paidFrom(int place) {
            return Math.min(coins[place], fareForAll());
        }

        // -- wetness

        int totalWetness() {
            int total = 0;
            for (int place = 0; place < size; place++) {
                total += wetness[place];
            }
            return total;
        }

        int wettest() {
            int wettest = NONE;
            int most = -1;
            for (int place = 0; place < size; place++) {
                if (wetness[place] > most) {
                    most = wetness[place];
                    wettest = place;
                }
            }
            return wettest;
        }
    }

    /**
     * The states that undo() brings back, the oldest first, and behind them one more: the draft, which
     * takes the state before a call, as only the call's end tells whether that one is to be kept.
     */
    private static final class History {
        private static final int MOST_STATES = 4;
        private final State[] states = new State[MOST_STATES + 1];
        int depth;

        History() {
            for (int i = 0; i < states.length; i++) {
                states[i] = new State();
            }
        }

        State drafted() {
            return states[depth];
        }

        void draft(State state) {
            drafted().copyFrom(state);
        }

        void keepDraft() {
            if (depth < MOST_STATES) {
                depth++;
                return;
            }
            State oldest = states[0];
            for (int i = 0; i < MOST_STATES; i++) {
                states[i] = states[i + 1];
            }
            states[MOST_STATES] = oldest;
        }

        /** What it returns holds until the next draft. The depth must be above 0. */
        State takeLatest() {
            depth--;
            return states[depth];
        }
    }

    /** The text, and the things that were read from it. */
    private static final class Weather {
        static final char GUST = 'g';
        static final char MINUTES = '.';
        static final char COUNTER = 'c';
        static final char SWAP = 'x';
        private static final char SEPARATOR = ';';
        private static final char AHEAD = '<';
        private static final char BEHIND = '>';
        private static final int MOST_CHARACTERS = 60;
        private static final int MOST_THINGS = 30;
        private static final int NO_FAULT = -1;
        private static final int NO_CHARACTER = -1;
        private static final int NO_NUMBER = -1;

        private final char[] text = new char[MOST_CHARACTERS];
        int length;
        final char[] kinds = new char[MOST_THINGS];
        final int[] amounts = new int[MOST_THINGS];
        final int[] sides = new int[MOST_THINGS];
        int things;
        private int index;

        int append(char character) {
            if (length >= MOST_CHARACTERS) {
                return FULL;
            }
            text[length] = character;
            length++;
            return length;
        }

        int empty() {
            int before = length;
            length = 0;
            return before;
        }

        /** Reads the things; returns the fault, or NO_FAULT. */
        int read() {
            things = 0;
            index = 0;
            for (int i = 0; i < MOST_THINGS; i++) {
                if (!readThing()) {
                    return index;
                }
                if (index >= length) {
                    return NO_FAULT;
                }
                if (character() != SEPARATOR) {
                    return index;
                }
                index++;
            }
            // So many things and a separator behind each fill the text: it ends too early.
            return index;
        }

        /** Returns false with the index at the fault if there is one. */
        private boolean readThing() {
            int kind = character();
            if (kind != GUST && kind != MINUTES && kind != COUNTER && kind != SWAP) {
                return false;
            }
            index++;
            int amount = 0;
            if (kind == GUST) {
                amount = readNumber(1, MOST_DROPS);
            } else if (kind == MINUTES) {
                amount = readNumber(1, MOST_MINUTES_AT_ONCE);
            } else if (kind == SWAP) {
                amount = readNumber(0, MOST_PEOPLE - 1);
            }
            if (amount == NO_NUMBER) {
                return false;
            }
            kinds[things] = (char) kind;
            amounts[things] = amount;
            sides[things] = kind == GUST ? readSide() : 0;
            things++;
            return true;
        }

        /** No number may be above 99, so it has two digits at most; what stands behind is for the caller to judge. */
        private int readNumber(int least, int most) {
            int number = digit();
            if (number < least) {
                return NO_NUMBER;
            }
            index++;
            int second = digit();
            if (number == 0 || second == NO_NUMBER || number * 10 + second > most) {
                return number;
            }
            index++;
            return number * 10 + second;
        }

        private int readSide() {
            int sign = character();
            if (sign != AHEAD && sign != BEHIND) {
                return 0;
            }
            index++;
            return sign == AHEAD ? FROM_AHEAD : FROM_BEHIND;
        }

        private int digit() {
            int sign = character();
            return isWithin(sign, '0', '9') ? sign - '0' : NO_NUMBER;
        }

        private int character() {
            return index < length ? text[index] : NO_CHARACTER;
        }
    }
}
