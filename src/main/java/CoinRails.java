/** A sorter of coins: coins roll over rails with gaps and fall into bags, get stuck or are rejects. */
public final class CoinRails {
    public static final int NONE = -1;

    private static final int KINDS = 6;
    private static final int RAILS = 6;
    private static final int LEAST_DIAMETER = 1000;
    private static final int MOST_DIAMETER = 4000;
    private static final int MOST_VALUE = 500;
    private static final int LEAST_GAP = 900;
    private static final int MOST_GAP = 4100;
    private static final int FIRST_GAP = 1500;
    private static final int GAP_STEP = 400;
    private static final int MOST_USE = 20;
    private static final int BAG_ROOM = 40;
    private static final int MOST_WEAR = 999;
    /** A gap that is greater than a coin by less than this holds the coin fast. */
    private static final int EASE = 5;
    /** What is added to a rail's number to tell that a coin gets stuck in it. */
    private static final int STUCK = 10;
    private static final int MOST_COINS = 200;
    private static final int MOST_SEED = 999999;
    private static final int TEXT_ROOM = 90;
    /** The shortest coin has two bytes. */
    private static final int TEXT_COINS = TEXT_ROOM / 2;
    private static final int WEAR_DIGITS = 3;
    private static final int MOST_BYTE = 127;
    private static final int SYNTAX_ERROR = -10;
    private static final int SAVED_STATES = 4;
    private static final int ABOUT_KIND = 7;
    private static final int ABOUT_RAIL = 10;
    private static final int ABOUT_ALL = 10;

    private final State now;
    private final History history;
    private final CoinText text;

    public CoinRails() {
        now = new State();
        history = new History();
        text = new CoinText();
    }

    // ---- sorter

    public int addKind(int diameter, int value, int rail) throws IllegalArgumentException, IllegalStateException {
        checkArgument(diameter, LEAST_DIAMETER, MOST_DIAMETER);
        checkArgument(value, 1, MOST_VALUE);
        checkArgument(rail, 0, RAILS - 1);
        if (now.kinds >= KINDS) {
            throw new IllegalStateException("no room for another kind");
        }
        history.save(now);
        return now.putKind(diameter, value, rail);
    }

    public int setHome(int kind, int rail) throws IndexOutOfBoundsException, IllegalArgumentException {
        checkKind(kind);
        checkArgument(rail, 0, RAILS - 1);
        history.save(now);
        int previous = now.home[kind];
        now.home[kind] = rail;
        return previous;
    }

    public int setGap(int rail, int gap)
            throws IndexOutOfBoundsException, IllegalArgumentException, IllegalStateException {
        checkRail(rail);
        checkArgument(gap, LEAST_GAP, MOST_GAP);
        if (now.isStuck(rail)) {
            throw new IllegalStateException("the rail is stuck");
        }
        history.save(now);
        int previous = now.gap[rail];
        now.gap[rail] = gap;
        now.use[rail] = 0;
        return previous;
    }

    public int feed(int kind, int wear) throws IndexOutOfBoundsException, IllegalArgumentException {
        checkKind(kind);
        checkArgument(wear, 0, MOST_WEAR);
        history.save(now);
        return now.putCoin(kind, wear);
    }

    public int feedSome(int coins, int s) throws IllegalArgumentException, IllegalStateException {
        checkArgument(coins, 0, MOST_COINS);
        checkArgument(s, 0, MOST_SEED);
        if (now.kinds == 0) {
            throw new IllegalStateException("there are no kinds");
        }
        history.save(now);
        return now.putCoinsByChance(coins, s);
    }

    public int free(int rail) throws IndexOutOfBoundsException, IllegalStateException {
        checkRail(rail);
        if (!now.isStuck(rail)) {
            throw new IllegalStateException("the rail is not stuck");
        }
        history.save(now);
        return now.loosen(rail);
    }

    public int takeBag(int rail) throws IndexOutOfBoundsException {
        checkRail(rail);
        history.save(now);
        return now.emptyBag(rail);
    }

    public int takeRejects() {
        history.save(now);
        return now.removeRejects();
    }

    public int kind(int kind, int what) throws IndexOutOfBoundsException, IllegalArgumentException {
        checkKind(kind);
        checkArgument(what, 0, ABOUT_KIND - 1);
        return now.aboutKind(kind, what);
    }

    public int rail(int rail, int what) throws IndexOutOfBoundsException, IllegalArgumentException {
        checkRail(rail);
        checkArgument(what, 0, ABOUT_RAIL - 1);
        return now.aboutRail(rail, what);
    }

    public int count(int rail, int kind) throws IndexOutOfBoundsException {
        checkRail(rail);
        checkKind(kind);
        return now.coinsOfKind(rail, kind);
    }

    public int value(int what) throws IllegalArgumentException {
        checkArgument(what, 0, ABOUT_ALL - 1);
        return now.aboutAll(what);
    }

    // ---- what if

    public int where(int kind, int wear) throws IndexOutOfBoundsException, IllegalArgumentException {
        checkKind(kind);
        checkArgument(wear, 0, MOST_WEAR);
        return now.placeFor(kind, wear);
    }

    public int mostWear(int kind) throws IndexOutOfBoundsException {
        checkKind(kind);
        return now.mostFittingWear(kind);
    }

    public int bestGap(int rail) throws IndexOutOfBoundsException {
        checkRail(rail);
        return now.leastSortingGap(rail);
    }

    public int supply(int kind) throws IndexOutOfBoundsException {
        checkKind(kind);
        return now.coinsUntilAstray(kind);
    }

    public int worstKind() {
        return now.kindMostAstray();
    }

    public double right() {
        int coins = now.coinsInBags();
        if (coins == 0) {
            return 1.0;
        }
        return (double) (coins - now.misfits()) / (double) coins;
    }

    // ---- text

    public int append(int value) throws IllegalArgumentException, IllegalStateException {
        checkArgument(value, 0, MOST_BYTE);
        if (text.length >= TEXT_ROOM) {
            throw new IllegalStateException("the text is full");
        }
        return text.addByte(value);
    }

    public int clearText() {
        int previous = text.length;
        text.length = 0;
        return previous;
    }

    public int parse() {
        int error = text.readCoins(now.kinds);
        if (error != NONE) {
            return SYNTAX_ERROR - error;
        }
        history.save(now);
        int fallen = 0;
        for (int i = 0; i < text.coins; i++) {
            if (isRail(now.putCoin(text.kindOf[i], text.wearOf[i]))) {
                fallen++;
            }
        }
        return fallen;
    }

    // ---- state

    public int undo() throws IllegalStateException {
        if (history.states == 0) {
            throw new IllegalStateException("there is no saved state");
        }
        return history.restore(now);
    }

    public long digest() {
        long hash = 31L * 3593L + text.length;
        for (int what = 0; what < ABOUT_ALL; what++) {
            hash = 31L * hash + now.aboutAll(what);
        }
        for (int kind = 0; kind < now.kinds; kind++) {
            hash = hashOfKind(hash, kind);
        }
        for (int rail = 0; rail < RAILS; rail++) {
            hash = hashOfRail(hash, rail);
        }
        return 31L * hash + history.states;
    }

    private long hashOfKind(long before, int kind) {
        long hash = before;
        for (int what = 0; what < ABOUT_KIND; what++) {
            hash = 31L * hash + now.aboutKind(kind, what);
        }
        return 31L * hash + now.mostFittingWear(kind);
    }

    private long hashOfRail(long before, int rail) {
        long hash = before;
        for (int what = 0; what < ABOUT_RAIL; what++) {
            hash = 31L * hash + now.aboutRail(rail, what);
        }
        for (int kind = 0; kind < now.kinds; kind++) {
            hash = 31L * hash + now.coinsOfKind(rail, kind);
        }
        return hash;
    }

    private void checkKind(int kind) {
        if (kind < 0 || kind >= now.kinds) {
            throw new IndexOutOfBoundsException("no such kind");
        }
    }

    private static void checkRail(int rail) {
        if (!isRail(rail)) {
            throw new IndexOutOfBoundsException("no such rail");
        }
    }

    private static void checkArgument(int argument, int least, int most) {
        if (argument < least || argument > most) {
            throw new IllegalArgumentException("an argument is out of range");
        }
    }

    private static boolean isRail(int number) {
        return number >= 0 && number < RAILS;
    }

    /** Everything that undo brings back: kinds, rails, bags and counts. Its callers have checked kinds and rails. */
    private static final class State {
        int kinds;
        final int[] diameter = new int[KINDS];
        final int[] worth = new int[KINDS];
        final int[] home = new int[KINDS];
        final int[] fed = new int[KINDS];
        final int[] rejects = new int[KINDS];

        final int[] gap = new int[RAILS];
        final int[] use = new int[RAILS];
        final int[] stuckKind = new int[RAILS];
        final int[] stuckWear = new int[RAILS];
        final int[] rolled = new int[RAILS];
        /** For each rail, and in it for each kind, the coins in the bag. */
        final int[] bags = new int[RAILS * KINDS];

        int takenAway;

        State() {
            for (int rail = 0; rail < RAILS; rail++) {
                gap[rail] = FIRST_GAP + GAP_STEP * rail;
                stuckKind[rail] = NONE;
                stuckWear[rail] = NONE;
            }
        }

        void copyFrom(State other) {
            kinds = other.kinds;
            System.arraycopy(other.diameter, 0, diameter, 0, KINDS);
            System.arraycopy(other.worth, 0, worth, 0, KINDS);
            System.arraycopy(other.home, 0, home, 0, KINDS);
            System.arraycopy(other.fed, 0, fed, 0, KINDS);
            System.arraycopy(other.rejects, 0, rejects, 0, KINDS);
            System.arraycopy(other.gap, 0, gap, 0, RAILS);
            System.arraycopy(other.use, 0, use, 0, RAILS);
            System.arraycopy(other.stuckKind, 0, stuckKind, 0, RAILS);
            System.arraycopy(other.stuckWear, 0, stuckWear, 0, RAILS);
            System.arraycopy(other.rolled, 0, rolled, 0, RAILS);
            System.arraycopy(other.bags, 0, bags, 0, RAILS * KINDS);
            takenAway = other.takenAway;
        }

        int putKind(int itsDiameter, int itsWorth, int itsHome) {
            int kind = kinds;
            diameter[kind] = itsDiameter;
            worth[kind] = itsWorth;
            home[kind] = itsHome;
            kinds++;
            return kind;
        }

        boolean isStuck(int rail) {
            return stuckKind[rail] != NONE;
        }

        boolean isFull(int rail) {
            return coinsIn(rail) >= BAG_ROOM;
        }

        /** The rail into whose bag a coin would fall, STUCK plus the rail in which it would get stuck, or NONE. */
        int placeFor(int kind, int wear) {
            for (int rail = 0; rail < RAILS; rail++) {
                int spare = gap[rail] - size(kind, wearAt(rail, wear));
                boolean rolls = spare <= 0 || isStuck(rail) || isFull(rail);
                if (!rolls) {
                    return spare < EASE ? STUCK + rail : rail;
                }
            }
            return NONE;
        }

        int size(int kind, int wear) {
            return Math.max(1, diameter[kind] - wear);
        }

        /** The wear of a coin that has rolled over all rails ahead of one. */
        int wearAt(int rail, int wear) {
            return Math.min(MOST_WEAR, wear + rail);
        }

        /** Feeds a coin and answers as placeFor. */
        int putCoin(int kind, int wear) {
            int place = placeFor(kind, wear);
            fed[kind]++;
            if (place == NONE) {
                rollOver(RAILS);
                rejects[kind]++;
            } else if (place >= STUCK) {
                int rail = place - STUCK;
                rollOver(rail);
                stuckKind[rail] = kind;
                stuckWear[rail] = wearAt(rail, wear);
            } else {
                rollOver(place);
                bags[place * KINDS + kind]++;
                useRail(place);
            }
            return place;
        }

        void rollOver(int railsAhead) {
            for (int rail = 0; rail < railsAhead; rail++) {
                rolled[rail]++;
            }
        }

        void useRail(int rail) {
            use[rail]++;
            if (use[rail] >= MOST_USE) {
                use[rail] = 0;
                gap[rail] = Math.min(MOST_GAP, gap[rail] + 1);
            }
        }

        /** Feeds coins and answers the rejects among them. There is a kind: the caller has seen to it. */
        int putCoinsByChance(int coins, int seed) {
            long s = seed;
            int rejected = 0;
            for (int i = 0; i < coins; i++) {
                s = (1103515245L * s + 12345L) % 2147483648L;
                int kind = (int) (s / 65536L % kinds);
                int wear = (int) (s / 1048576L % 40L);
                if (putCoin(kind, wear) == NONE) {
                    rejected++;
                }
            }
            return rejected;
        }

        /** Frees a rail and answers the kind of its coin. It is stuck: the caller has seen to it. */
        int loosen(int rail) {
            int kind = stuckKind[rail];
            if (isFull(rail)) {
                rejects[kind]++;
            } else {
                bags[rail * KINDS + kind]++;
            }
            stuckKind[rail] = NONE;
            stuckWear[rail] = NONE;
            return kind;
        }

        int emptyBag(int rail) {
            int coins = coinsIn(rail);
            for (int kind = 0; kind < KINDS; kind++) {
                bags[rail * KINDS + kind] = 0;
            }
            takenAway += coins;
            return coins;
        }

        int removeRejects() {
            int coins = sum(rejects);
            for (int kind = 0; kind < KINDS; kind++) {
                rejects[kind] = 0;
            }
            takenAway += coins;
            return coins;
        }

        int aboutKind(int kind, int what) {
            switch (what) {
                case 0: return diameter[kind];
                case 1: return worth[kind];
                case 2: return home[kind];
                case 3: return coinsOfKindInBags(kind);
                case 4: return stuckOfKind(kind);
                case 5: return rejects[kind];
                default: return fed[kind];
            }
        }

        int aboutRail(int rail, int what) {
            switch (what) {
                case 0: return gap[rail];
                case 1: return use[rail];
                case 2: return coinsIn(rail);
                case 3: return stuckKind[rail];
                case 4: return stuckWear[rail];
                case 5: return supposedWorth(rail);
                case 6: return trueWorth(rail);
                case 7: return misfitsIn(rail);
                case 8: return kindOfRail(rail);
                default: return rolled[rail];
            }
        }

        int aboutAll(int what) {
            switch (what) {
                case 0: return kinds;
                case 1: return sum(fed);
                case 2: return coinsInBags();
                case 3: return stuckRails();
                case 4: return sum(rejects);
                case 5: return takenAway;
                case 6: return misfits();
                case 7: return supposedWorthOfAll();
                case 8: return trueWorthOfAll();
                default: return fullBags();
            }
        }

        static int sum(int[] numbers) {
            int sum = 0;
            for (int number : numbers) {
                sum += number;
            }
            return sum;
        }

        int coinsOfKind(int rail, int kind) {
            return bags[rail * KINDS + kind];
        }

        int coinsIn(int rail) {
            int coins = 0;
            for (int kind = 0; kind < KINDS; kind++) {
                coins += bags[rail * KINDS + kind];
            }
            return coins;
        }

        int coinsInBags() {
            return sum(bags);
        }

        int coinsOfKindInBags(int kind) {
            int coins = 0;
            for (int rail = 0; rail < RAILS; rail++) {
                coins += coinsOfKind(rail, kind);
            }
            return coins;
        }

        int stuckOfKind(int kind) {
            int coins = 0;
            for (int rail = 0; rail < RAILS; rail++) {
                if (stuckKind[rail] == kind) {
                    coins++;
                }
            }
            return coins;
        }

        int stuckRails() {
            int rails = 0;
            for (int rail = 0; rail < RAILS; rail++) {
                if (isStuck(rail)) {
                    rails++;
                }
            }
            return rails;
        }

        int fullBags() {
            int full = 0;
            for (int rail = 0; rail < RAILS; rail++) {
                if (isFull(rail)) {
                    full++;
                }
            }
            return full;
        }

        /** The kind by whose value a bag is reckoned: of those that should fall on the rail the lowest, or NONE. */
        int kindOfRail(int rail) {
            for (int kind = 0; kind < kinds; kind++) {
                if (home[kind] == rail) {
                    return kind;
                }
            }
            return NONE;
        }

        int supposedWorth(int rail) {
            int kind = kindOfRail(rail);
            return kind == NONE ? 0 : coinsIn(rail) * worth[kind];
        }

        int supposedWorthOfAll() {
            int sum = 0;
            for (int rail = 0; rail < RAILS; rail++) {
                sum += supposedWorth(rail);
            }
            return sum;
        }

        int trueWorth(int rail) {
            int sum = 0;
            for (int kind = 0; kind < kinds; kind++) {
                sum += coinsOfKind(rail, kind) * worth[kind];
            }
            return sum;
        }

        int trueWorthOfAll() {
            int sum = 0;
            for (int rail = 0; rail < RAILS; rail++) {
                sum += trueWorth(rail);
            }
            return sum;
        }

        int misfitsIn(int rail) {
            int coins = 0;
            for (int kind = 0; kind < kinds; kind++) {
                if (home[kind] != rail) {
                    coins += coinsOfKind(rail, kind);
                }
            }
            return coins;
        }

        int misfits() {
            int coins = 0;
            for (int rail = 0; rail < RAILS; rail++) {
                coins += misfitsIn(rail);
            }
            return coins;
        }

        int misfitsOfKind(int kind) {
            return coinsOfKindInBags(kind) - coinsOfKind(home[kind], kind);
        }

        int kindMostAstray() {
            int worst = NONE;
            int most = 0;
            for (int kind = 0; kind < kinds; kind++) {
                int coins = misfitsOfKind(kind);
                if (coins > most) {
                    worst = kind;
                    most = coins;
                }
            }
            return worst;
        }

        boolean fallsHome(int kind, int wear) {
            return placeFor(kind, wear) == home[kind];
        }

        /**
         * A coin that falls home unworn does so with more wear too, until it is small enough for a rail ahead;
         * from there on no wear brings it home. So the limit can be neared by halved steps.
         */
        int mostFittingWear(int kind) {
            if (!fallsHome(kind, 0)) {
                return NONE;
            }
            int most = 0;
            for (int step = 512; step > 0; step /= 2) {
                if (most + step <= MOST_WEAR && fallsHome(kind, most + step)) {
                    most += step;
                }
            }
            return most;
        }

        int leastSortingGap(int rail) {
            int least = NONE;
            int most = MOST_GAP;
            for (int kind = 0; kind < kinds; kind++) {
                if (home[kind] == rail) {
                    least = Math.max(least, diameter[kind] + EASE);
                } else if (home[kind] > rail) {
                    most = Math.min(most, diameter[kind]);
                }
            }
            return least <= most ? least : NONE;
        }

        /** Coins that fall home fill their bag: they only widen its gap, and leave the rails ahead as they are. */
        int coinsUntilAstray(int kind) {
            return fallsHome(kind, 0) ? BAG_ROOM - coinsIn(home[kind]) : 0;
        }
    }

    /** The saved states, in a ring whose states are written again and again. */
    private static final class History {
        final State[] ring = new State[SAVED_STATES];
        /** Where the next state is saved; when all are in use, that is the oldest one. */
        int next;
        int states;

        History() {
            for (int i = 0; i < SAVED_STATES; i++) {
                ring[i] = new State();
            }
        }

        void save(State state) {
            ring[next].copyFrom(state);
            next = (next + 1) % SAVED_STATES;
            states = Math.min(SAVED_STATES, states + 1);
        }

        /** Brings the last saved state back and answers how many remain. There is one: the caller has seen to it. */
        int restore(State state) {
            next = (next + SAVED_STATES - 1) % SAVED_STATES;
            states--;
            state.copyFrom(ring[next]);
            return states;
        }
    }

    /** The text, and the coins that were last read from it. */
    private static final class CoinText {
        final int[] bytes = new int[TEXT_ROOM];
        int length;

        final int[] kindOf = new int[TEXT_COINS];
        final int[] wearOf = new int[TEXT_COINS];
        int coins;

        int addByte(int value) {
            bytes[length] = value;
            length++;
            return length;
        }

        /** Reads all coins and answers NONE, or the syntax error position. */
        int readCoins(int kinds) {
            coins = 0;
            int at = 0;
            while (at < length && coins < TEXT_COINS) {
                if (!isDigit(at) || digit(at) >= kinds) {
                    return at;
                }
                int end = endOfWear(at + 1);
                boolean lacksDigit = isByte(end - 1, 'w');
                if (lacksDigit || !isByte(end, ';')) {
                    return end;
                }
                kindOf[coins] = digit(at);
                wearOf[coins] = number(at + 2, end);
                coins++;
                at = end + 1;
            }
            return NONE;
        }

        /** Where a wear ends that begins at a position, which it does with a w or not at all. */
        int endOfWear(int start) {
            if (!isByte(start, 'w')) {
                return start;
            }
            int end = start + 1;
            while (end <= start + WEAR_DIGITS && isDigit(end)) {
                end++;
            }
            return end;
        }

        /** The number of the digits from a position up to another, 0 if there are none. */
        int number(int start, int end) {
            int number = 0;
            for (int at = start; at < end; at++) {
                number = 10 * number + digit(at);
            }
            return number;
        }

        boolean isByte(int at, int value) {
            return at >= 0 && at < length && bytes[at] == value;
        }

        boolean isDigit(int at) {
            return at >= 0 && at < length && bytes[at] >= '0' && bytes[at] <= '9';
        }

        int digit(int at) {
            return bytes[at] - '0';
        }
    }
}
