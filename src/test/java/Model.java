import java.util.ArrayList;
import java.util.List;

/**
 * The document told a second time, as slowly and literally as can be: each coin is kept, and each question
 * that CoinRails answers by reasoning is answered here by trying.
 */
final class Model {
    private static final int NONE = -1;
    private static final int REJECT = 20;
    private static final int TAKEN = 30;

    private static final class Kind {
        int diameter;
        int value;
        int rail;
    }

    /** Its place is a rail for a bag, 10 plus a rail where it is stuck, REJECT or TAKEN. */
    private static final class Coin {
        int kind;
        int wear;
        int place;

        Coin copy() {
            Coin c = new Coin();
            c.kind = kind;
            c.wear = wear;
            c.place = place;
            return c;
        }
    }

    private static final class World {
        final List<Kind> kinds = new ArrayList<>();
        final List<Coin> coins = new ArrayList<>();
        int[] gap = {1500, 1900, 2300, 2700, 3100, 3500};
        int[] use = new int[6];
        int[] rolled = new int[6];

        World copy() {
            World w = new World();
            for (Kind k : kinds) {
                w.add(k.diameter, k.value, k.rail);
            }
            for (Coin c : coins) {
                w.coins.add(c.copy());
            }
            w.gap = gap.clone();
            w.use = use.clone();
            w.rolled = rolled.clone();
            return w;
        }

        void add(int diameter, int value, int rail) {
            Kind k = new Kind();
            k.diameter = diameter;
            k.value = value;
            k.rail = rail;
            kinds.add(k);
        }

        int at(int place) {
            int n = 0;
            for (Coin c : coins) {
                n += c.place == place ? 1 : 0;
            }
            return n;
        }

        Coin stuck(int rail) {
            for (Coin c : coins) {
                if (c.place == 10 + rail) {
                    return c;
                }
            }
            return null;
        }

        int feed(int kind, int wear) {
            Coin c = new Coin();
            c.kind = kind;
            c.wear = wear;
            c.place = REJECT;
            coins.add(c);
            for (int rail = 0; rail < 6; rail++) {
                int size = kinds.get(kind).diameter - c.wear;
                if (size < 1) {
                    size = 1;
                }
                if (stuck(rail) != null || at(rail) == 40 || !(gap[rail] > size)) {
                    rolled[rail]++;
                    if (c.wear < 999) {
                        c.wear++;
                    }
                } else if (gap[rail] - size < 5) {
                    c.place = 10 + rail;
                    return 10 + rail;
                } else {
                    c.place = rail;
                    use[rail]++;
                    if (use[rail] == 20) {
                        use[rail] = 0;
                        if (gap[rail] < 4100) {
                            gap[rail]++;
                        }
                    }
                    return rail;
                }
            }
            return NONE;
        }

        /** As the world is, but with no coin that matters not to what comes. */
        World light() {
            World w = copy();
            w.coins.removeIf(c -> c.place >= REJECT);
            return w;
        }
    }

    private World now = new World();
    private final List<World> saved = new ArrayList<>();
    private final StringBuilder text = new StringBuilder();

    private void save() {
        saved.add(now.copy());
        if (saved.size() > 4) {
            saved.remove(0);
        }
    }

    private void needKind(int kind) {
        need(kind >= 0 && kind < now.kinds.size(), new IndexOutOfBoundsException());
    }

    private void needRail(int rail) {
        need(rail >= 0 && rail < 6, new IndexOutOfBoundsException());
    }

    private void needRange(int argument, int least, int most) {
        need(argument >= least && argument <= most, new IllegalArgumentException());
    }

    private void need(boolean holds, RuntimeException otherwise) {
        if (!holds) {
            throw otherwise;
        }
    }

    int addKind(int diameter, int value, int rail) {
        needRange(diameter, 1000, 4000);
        needRange(value, 1, 500);
        needRange(rail, 0, 5);
        need(now.kinds.size() < 6, new IllegalStateException());
        save();
        now.add(diameter, value, rail);
        return now.kinds.size() - 1;
    }

    int setHome(int kind, int rail) {
        needKind(kind);
        needRange(rail, 0, 5);
        save();
        int before = now.kinds.get(kind).rail;
        now.kinds.get(kind).rail = rail;
        return before;
    }

    int setGap(int rail, int gap) {
        needRail(rail);
        needRange(gap, 900, 4100);
        need(now.stuck(rail) == null, new IllegalStateException());
        save();
        int before = now.gap[rail];
        now.gap[rail] = gap;
        now.use[rail] = 0;
        return before;
    }

    int feed(int kind, int wear) {
        needKind(kind);
        needRange(wear, 0, 999);
        save();
        return now.feed(kind, wear);
    }

    int feedSome(int coins, int s) {
        needRange(coins, 0, 200);
        needRange(s, 0, 999999);
        need(!now.kinds.isEmpty(), new IllegalStateException());
        save();
        int rejects = 0;
        java.math.BigInteger t = java.math.BigInteger.valueOf(s);
        for (int i = 0; i < coins; i++) {
            t = t.multiply(java.math.BigInteger.valueOf(1103515245)).add(java.math.BigInteger.valueOf(12345))
                    .mod(java.math.BigInteger.valueOf(2147483648L));
            long u = t.longValueExact();
            rejects += now.feed((int) (u / 65536 % now.kinds.size()), (int) (u / 1048576 % 40)) == NONE ? 1 : 0;
        }
        return rejects;
    }

    int free(int rail) {
        needRail(rail);
        need(now.stuck(rail) != null, new IllegalStateException());
        save();
        Coin c = now.stuck(rail);
        c.place = now.at(rail) < 40 ? rail : REJECT;
        return c.kind;
    }

    private int take(int place) {
        save();
        int n = now.at(place);
        for (Coin c : now.coins) {
            if (c.place == place) {
                c.place = TAKEN;
            }
        }
        return n;
    }

    int takeBag(int rail) {
        needRail(rail);
        return take(rail);
    }

    int takeRejects() {
        return take(REJECT);
    }

    int kind(int kind, int what) {
        needKind(kind);
        needRange(what, 0, 6);
        Kind k = now.kinds.get(kind);
        if (what < 3) {
            return what == 0 ? k.diameter : what == 1 ? k.value : k.rail;
        }
        int n = 0;
        for (Coin c : now.coins) {
            boolean counts = what == 3 ? c.place < 6
                    : what == 4 ? c.place >= 10 && c.place < 16
                    : what == 5 ? c.place == REJECT
                    : true;
            n += c.kind == kind && counts ? 1 : 0;
        }
        return n;
    }

    private int homeKind(int rail) {
        for (int kind = 0; kind < now.kinds.size(); kind++) {
            if (now.kinds.get(kind).rail == rail) {
                return kind;
            }
        }
        return NONE;
    }

    int rail(int rail, int what) {
        needRail(rail);
        needRange(what, 0, 9);
        Coin stuck = now.stuck(rail);
        int worth = 0;
        int misfits = 0;
        for (Coin c : now.coins) {
            if (c.place == rail) {
                worth += now.kinds.get(c.kind).value;
                misfits += now.kinds.get(c.kind).rail == rail ? 0 : 1;
            }
        }
        int home = homeKind(rail);
        int supposed = home == NONE ? 0 : now.kinds.get(home).value * now.at(rail);
        int[] answers = {now.gap[rail], now.use[rail], now.at(rail), stuck == null ? NONE : stuck.kind,
            stuck == null ? NONE : stuck.wear, supposed, worth, misfits, home, now.rolled[rail]};
        return answers[what];
    }

    int count(int rail, int kind) {
        needRail(rail);
        needKind(kind);
        int n = 0;
        for (Coin c : now.coins) {
            n += c.place == rail && c.kind == kind ? 1 : 0;
        }
        return n;
    }

    private int ofRails(int what) {
        int sum = 0;
        for (int rail = 0; rail < 6; rail++) {
            sum += rail(rail, what);
        }
        return sum;
    }

    int value(int what) {
        needRange(what, 0, 9);
        int stuck = 0;
        int full = 0;
        for (int rail = 0; rail < 6; rail++) {
            stuck += now.stuck(rail) == null ? 0 : 1;
            full += now.at(rail) == 40 ? 1 : 0;
        }
        int[] answers = {now.kinds.size(), now.coins.size(), ofRails(2), stuck, now.at(REJECT), now.at(TAKEN),
            ofRails(7), ofRails(5), ofRails(6), full};
        return answers[what];
    }

    int where(int kind, int wear) {
        needKind(kind);
        needRange(wear, 0, 999);
        return now.light().feed(kind, wear);
    }

    int mostWear(int kind) {
        needKind(kind);
        World w = now.light();
        for (int wear = 0; wear <= 999; wear++) {
            int[] gap = w.gap.clone();
            int[] use = w.use.clone();
            int place = w.feed(kind, wear);
            w.coins.remove(w.coins.size() - 1);
            w.gap = gap;
            w.use = use;
            if (place != w.kinds.get(kind).rail) {
                return wear - 1;
            }
        }
        return 999;
    }

    int bestGap(int rail) {
        needRail(rail);
        if (homeKind(rail) == NONE) {
            return NONE;
        }
        for (int gap = 900; gap <= 4100; gap++) {
            boolean sorts = true;
            for (Kind k : now.kinds) {
                boolean rolls = gap <= k.diameter;
                boolean falls = !rolls && !(gap - k.diameter < 5);
                sorts &= k.rail == rail ? falls : k.rail < rail || rolls;
            }
            if (sorts) {
                return gap;
            }
        }
        return NONE;
    }

    int supply(int kind) {
        needKind(kind);
        World w = now.light();
        int n = 0;
        while (w.feed(kind, 0) == w.kinds.get(kind).rail) {
            n++;
        }
        return n;
    }

    int worstKind() {
        int worst = NONE;
        int most = 0;
        for (int kind = now.kinds.size() - 1; kind >= 0; kind--) {
            int n = 0;
            for (int rail = 0; rail < 6; rail++) {
                n += rail == now.kinds.get(kind).rail ? 0 : count(rail, kind);
            }
            if (n > 0 && n >= most) {
                worst = kind;
                most = n;
            }
        }
        return worst;
    }

    double right() {
        return value(2) == 0 ? 1.0 : (double) (value(2) - value(6)) / (double) value(2);
    }

    int append(int value) {
        needRange(value, 0, 127);
        need(text.length() < 90, new IllegalStateException());
        text.append((char) value);
        return text.length();
    }

    int clearText() {
        int n = text.length();
        text.setLength(0);
        return n;
    }

    int parse() {
        // What may come next: 0 a kind, 1 a w or the end, 2 a digit, 3 or 4 a digit or the end, 5 the end.
        int next = 0;
        for (int i = 0; i < text.length(); i++) {
            char c = text.charAt(i);
            boolean digit = c >= '0' && c <= '9';
            if (next == 0 && digit && c - '0' < now.kinds.size()) {
                next = 1;
            } else if (next == 1 && c == 'w') {
                next = 2;
            } else if (next >= 2 && next <= 4 && digit) {
                next++;
            } else if ((next == 1 || next >= 3) && c == ';') {
                next = 0;
            } else {
                return -10 - i;
            }
        }
        if (next != 0) {
            return -10 - text.length();
        }
        save();
        int fallen = 0;
        for (String coin : text.toString().split(";")) {
            if (!coin.isEmpty()) {
                int wear = coin.length() > 1 ? Integer.parseInt(coin.substring(2)) : 0;
                int place = now.feed(coin.charAt(0) - '0', wear);
                fallen += place >= 0 && place < 6 ? 1 : 0;
            }
        }
        return fallen;
    }

    int undo() {
        need(!saved.isEmpty(), new IllegalStateException());
        now = saved.remove(saved.size() - 1);
        return saved.size();
    }

    long digest() {
        List<Long> values = new ArrayList<>();
        values.add((long) text.length());
        for (int what = 0; what <= 9; what++) {
            values.add((long) value(what));
        }
        for (int kind = 0; kind < now.kinds.size(); kind++) {
            for (int what = 0; what <= 6; what++) {
                values.add((long) kind(kind, what));
            }
            values.add((long) mostWear(kind));
        }
        for (int rail = 0; rail < 6; rail++) {
            for (int what = 0; what <= 9; what++) {
                values.add((long) rail(rail, what));
            }
            for (int kind = 0; kind < now.kinds.size(); kind++) {
                values.add((long) count(rail, kind));
            }
        }
        values.add((long) saved.size());
        long h = 3593;
        for (long v : values) {
            h = 31 * h + v;
        }
        return h;
    }
}
