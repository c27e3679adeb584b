import java.util.function.LongSupplier;

/** Long runs of calls, chosen by a fixed sequence of numbers, answered by CoinRails and by the model alike. */
public final class ModelTest {
    private static final int RUNS = 240;
    private static final int CALLS = 512;
    private static final int[] ODD = {-1, 6, 7, 10, 999, 1000, Integer.MIN_VALUE, Integer.MAX_VALUE};
    private static final String TEXT_SIGNS = "0123459w;;; x:";

    private static final Check check = new Check();
    private static long seed;

    public static void main(String[] args) {
        for (int run = 0; run < RUNS && check.wrongSoFar() == 0; run++) {
            seed = 7919L * run + 1;
            run(run);
        }
        check.end();
    }

    private static int below(int bound) {
        seed = seed * 6364136223846793005L + 1442695040888963407L;
        return (int) ((seed >>> 33) % bound);
    }

    private static boolean rarely() {
        return below(25) == 0;
    }

    private static int upTo(int most) {
        return rarely() ? ODD[below(ODD.length)] : below(most + 1);
    }

    private static void run(int run) {
        CoinRails x = new CoinRails();
        Model m = new Model();
        for (int i = 0; i < CALLS && check.wrongSoFar() == 0; i++) {
            String where = "run " + run + ", call " + i + ": ";
            step(where, x, m);
            if (below(8) == 0) {
                check.same(where + "digest", x.digest(), m.digest());
            }
        }
        check.same("run " + run + ", at its end: digest", x.digest(), m.digest());
    }

    private static void step(String where, CoinRails x, Model m) {
        int a = upTo(5);
        int b = upTo(9);
        int wear = rarely() ? below(1200) - 100 : below(3) == 0 ? below(1000) : below(20);
        switch (below(30)) {
            case 0, 1: {
                int diameter = rarely() ? ODD[below(ODD.length)] : diameterNearAGap(m);
                int value = rarely() ? below(3) * 501 - 501 : 1 + below(500);
                int rail = b > 5 ? 0 : a;
                same(where + "addKind", () -> x.addKind(diameter, value, rail), () -> m.addKind(diameter, value, rail));
                break;
            }
            case 2: {
                int rail = upTo(5);
                same(where + "setHome", () -> x.setHome(a, rail), () -> m.setHome(a, rail));
                break;
            }
            case 3: {
                int gap = rarely() ? 899 + below(2) * 3202 : below(4) == 0 ? 900 + below(3201) : gapNearAKind(m);
                same(where + "setGap", () -> x.setGap(a, gap), () -> m.setGap(a, gap));
                break;
            }
            case 4, 5, 6, 7, 8: {
                same(where + "feed", () -> x.feed(a, wear), () -> m.feed(a, wear));
                break;
            }
            case 9: {
                int coins = rarely() ? 199 + below(4) : below(25);
                int s = rarely() ? 999998 + below(4) : below(1000000);
                same(where + "feedSome", () -> x.feedSome(coins, s), () -> m.feedSome(coins, s));
                break;
            }
            case 10: {
                same(where + "free", () -> x.free(a), () -> m.free(a));
                break;
            }
            case 11: {
                if (below(3) == 0) {
                    same(where + "takeBag", () -> x.takeBag(a), () -> m.takeBag(a));
                } else {
                    same(where + "takeRejects", () -> x.takeRejects(), () -> m.takeRejects());
                }
                break;
            }
            case 12: {
                same(where + "kind", () -> x.kind(a, b - 2), () -> m.kind(a, b - 2));
                break;
            }
            case 13: {
                same(where + "rail", () -> x.rail(a, b), () -> m.rail(a, b));
                break;
            }
            case 14: {
                int kind = upTo(5);
                same(where + "count", () -> x.count(a, kind), () -> m.count(a, kind));
                break;
            }
            case 15: {
                same(where + "value", () -> x.value(b), () -> m.value(b));
                break;
            }
            case 16, 17: {
                same(where + "where", () -> x.where(a, wear), () -> m.where(a, wear));
                break;
            }
            case 18: {
                same(where + "mostWear", () -> x.mostWear(a), () -> m.mostWear(a));
                break;
            }
            case 19: {
                same(where + "bestGap", () -> x.bestGap(a), () -> m.bestGap(a));
                break;
            }
            case 20: {
                same(where + "supply", () -> x.supply(a), () -> m.supply(a));
                break;
            }
            case 21: {
                same(where + "worstKind", () -> x.worstKind(), () -> m.worstKind());
                check.same(where + "right", x.right(), m.right());
                break;
            }
            case 22: {
                int value = rarely() ? below(3) * 64 : TEXT_SIGNS.charAt(below(TEXT_SIGNS.length()));
                int wrong = rarely() ? 128 + below(2) * -129 : value;
                same(where + "append", () -> x.append(wrong), () -> m.append(wrong));
                break;
            }
            case 23, 24: {
                writeCoins(where, x, m);
                break;
            }
            case 25, 26: {
                same(where + "parse", () -> x.parse(), () -> m.parse());
                break;
            }
            case 27: {
                if (below(4) == 0) {
                    same(where + "clearText", () -> x.clearText(), () -> m.clearText());
                }
                break;
            }
            default: {
                same(where + "undo", () -> x.undo(), () -> m.undo());
                break;
            }
        }
    }

    private static int diameterNearAGap(Model m) {
        return Math.max(1000, Math.min(4000, m.rail(below(6), 0) + below(12) - 8));
    }

    private static int gapNearAKind(Model m) {
        int kinds = m.value(0);
        return kinds == 0 ? 2000 : Math.max(900, Math.min(4100, m.kind(below(kinds), 0) + below(12) - 3));
    }

    private static void writeCoins(String where, CoinRails x, Model m) {
        StringBuilder text = new StringBuilder();
        for (int coins = below(6); coins > 0; coins--) {
            text.append(below(m.value(0) + (rarely() ? 1 : 0) + (m.value(0) == 0 ? 1 : 0)));
            if (below(2) == 0) {
                text.append('w').append(below(rarely() ? 3000 : 1000));
            }
            text.append(rarely() ? "" : ";");
        }
        for (int i = 0; i < text.length(); i++) {
            int value = text.charAt(i);
            same(where + "append", () -> x.append(value), () -> m.append(value));
        }
    }

    private static void same(String what, LongSupplier got, LongSupplier due) {
        check.same(what, answer(got), answer(due));
    }

    /** An answer, or a number that stands for what was thrown. */
    private static long answer(LongSupplier call) {
        try {
            return call.getAsLong();
        } catch (RuntimeException e) {
            if (e.getClass() == IndexOutOfBoundsException.class) {
                return Long.MIN_VALUE;
            }
            if (e.getClass() == IllegalArgumentException.class) {
                return Long.MIN_VALUE + 1;
            }
            return e.getClass() == IllegalStateException.class ? Long.MIN_VALUE + 2 : e.hashCode();
        }
    }
}
