/** For each promise of the document: ordinary calls, the edges it names, and wrong arguments. */
public final class PromisesTest {
    private static final int NONE = CoinRails.NONE;
    private static final int[] NO_INDEX = {-1, 6, Integer.MIN_VALUE, Integer.MAX_VALUE};

    private static final Check check = new Check();

    public static void main(String[] args) {
        promise1New();
        promise2AddKind();
        promise3SetHome();
        promise4SetGap();
        promise5FeedGaps();
        promise5FeedWear();
        promise5FeedUse();
        promise5FeedFullBag();
        promise5FeedWrong();
        promise6FeedSome();
        promise7Free();
        promise8TakeBag();
        promise9TakeRejects();
        promise10Kind();
        promise11Rail();
        promise12Count();
        promise13Value();
        promise14Where();
        promise15MostWear();
        promise16BestGap();
        promise17Supply();
        promise18WorstKind();
        promise19Right();
        promise20Append();
        promise21ClearText();
        promise22Parse();
        promise22ParseErrors();
        promise23Undo();
        promise24Digest();
        lastKindAndLastRail();
        check.end();
    }

    /** Three kinds that fall home: on the rails 0, 1 and 2, with gaps of 1500, 1900 and 2300. */
    private static CoinRails threeKinds() {
        CoinRails x = new CoinRails();
        x.addKind(1490, 5, 0);
        x.addKind(1880, 20, 1);
        x.addKind(2290, 100, 2);
        return x;
    }

    private static CoinRails oneKind(int diameter, int rail) {
        CoinRails x = new CoinRails();
        x.addKind(diameter, 7, rail);
        return x;
    }

    private static void feedTimes(CoinRails x, int times, int kind, int wear) {
        for (int i = 0; i < times; i++) {
            x.feed(kind, wear);
        }
    }

    private static void write(CoinRails x, String text) {
        x.clearText();
        for (int i = 0; i < text.length(); i++) {
            x.append(text.charAt(i));
        }
    }

    private static int parse(CoinRails x, String text) {
        write(x, text);
        return x.parse();
    }

    private static void promise1New() {
        check.same("NONE", CoinRails.NONE, -1);
        CoinRails x = new CoinRails();
        for (int what = 0; what <= 9; what++) {
            check.same("new value " + what, x.value(what), 0);
        }
        int[] due = {0, 0, 0, NONE, NONE, 0, 0, 0, NONE, 0};
        for (int rail = 0; rail < 6; rail++) {
            check.same("new gap " + rail, x.rail(rail, 0), 1500 + 400 * rail);
            for (int what = 1; what <= 9; what++) {
                check.same("new rail " + rail + " " + what, x.rail(rail, what), due[what]);
            }
        }
        check.same("new text", x.clearText(), 0);
        check.fails("undo of a new one", x, Check.STATE, () -> x.undo());
        CoinRails other = new CoinRails();
        other.addKind(1000, 1, 0);
        check.same("two sorters are apart", x.value(0), 0);
    }

    private static void promise2AddKind() {
        CoinRails x = new CoinRails();
        check.undoable("addKind", x, () -> x.addKind(2000, 3, 4));
        int[][] wrong = {
            {999, 1, 0}, {4001, 1, 0}, {1000, 0, 0}, {1000, 501, 0}, {1000, 1, -1}, {1000, 1, 6},
            {-1000, 1, 0}, {1000, -1, 0}, {Integer.MIN_VALUE, 1, 0}, {1000, Integer.MAX_VALUE, 0},
        };
        for (int[] a : wrong) {
            check.fails("addKind wrong", x, Check.ARGUMENT, () -> x.addKind(a[0], a[1], a[2]));
        }
        check.same("first kind", x.addKind(1000, 1, 0), 0);
        check.same("second kind", x.addKind(4000, 500, 5), 1);
        for (int kind = 2; kind < 6; kind++) {
            check.same("kind", x.addKind(2000 + kind, kind, kind), kind);
        }
        check.same("kinds", x.value(0), 6);
        check.same("diameter", x.kind(1, 0), 4000);
        check.same("value", x.kind(1, 1), 500);
        check.same("rail", x.kind(1, 2), 5);
        check.fails("addKind of a seventh", x, Check.STATE, () -> x.addKind(2000, 1, 0));
        check.fails("addKind of a wrong seventh", x, Check.ARGUMENT, () -> x.addKind(2000, 1, 6));
    }

    private static void promise3SetHome() {
        CoinRails x = threeKinds();
        x.feed(0, 0);
        check.undoable("setHome", x, () -> x.setHome(0, 3));
        check.same("setHome", x.setHome(0, 3), 0);
        check.same("setHome again", x.setHome(0, 5), 3);
        check.same("setHome to the same", x.setHome(0, 5), 5);
        check.same("home", x.kind(0, 2), 5);
        check.same("home of another", x.kind(1, 2), 1);
        check.same("misfit now", x.value(6), 1);
        x.setHome(0, 0);
        check.same("no misfit now", x.value(6), 0);
        check.fails("setHome kind -1", x, Check.INDEX, () -> x.setHome(-1, 0));
        check.fails("setHome kind 3", x, Check.INDEX, () -> x.setHome(3, 0));
        check.fails("setHome kind 3, rail 6", x, Check.INDEX, () -> x.setHome(3, 6));
        for (int rail : NO_INDEX) {
            check.fails("setHome rail " + rail, x, Check.ARGUMENT, () -> x.setHome(0, rail));
        }
    }

    private static void promise4SetGap() {
        CoinRails x = threeKinds();
        feedTimes(x, 3, 0, 0);
        check.same("use", x.rail(0, 1), 3);
        check.undoable("setGap", x, () -> x.setGap(0, 1600));
        check.same("setGap", x.setGap(0, 900), 1500);
        check.same("use after setGap", x.rail(0, 1), 0);
        check.same("setGap to the most", x.setGap(0, 4100), 900);
        check.same("gap", x.rail(0, 0), 4100);
        x.feed(0, 0);
        check.same("setGap to the same", x.setGap(0, 4100), 4100);
        check.same("use after the same gap", x.rail(0, 1), 0);
        for (int rail : NO_INDEX) {
            check.fails("setGap rail " + rail, x, Check.INDEX, () -> x.setGap(rail, 0));
        }
        for (int gap : new int[] {899, 4101, -1, Integer.MIN_VALUE, Integer.MAX_VALUE}) {
            check.fails("setGap gap " + gap, x, Check.ARGUMENT, () -> x.setGap(0, gap));
        }
        x.setGap(0, 1491);
        check.same("gets stuck", x.feed(0, 0), 10);
        check.fails("setGap stuck", x, Check.STATE, () -> x.setGap(0, 2000));
        check.fails("setGap stuck, wrong gap", x, Check.ARGUMENT, () -> x.setGap(0, 899));
        check.same("setGap of another rail", x.setGap(1, 2000), 1900);
        x.free(0);
        check.same("setGap of a freed rail", x.setGap(0, 2000), 1491);
    }

    private static void promise5FeedGaps() {
        int[] spares = {-1, 0, 1, 2, 3, 4, 5, 6};
        int[] due = {1, 1, 10, 10, 10, 10, 0, 0};
        for (int i = 0; i < spares.length; i++) {
            CoinRails x = oneKind(1500 - spares[i], 0);
            check.same("feed with " + spares[i] + " to spare", x.feed(0, 0), due[i]);
        }
        CoinRails x = threeKinds();
        check.undoable("feed", x, () -> x.feed(2, 3));
        for (int kind = 0; kind < 3; kind++) {
            check.same("feed falls home", x.feed(kind, 0), kind);
            check.same("in the bag", x.count(kind, kind), 1);
            check.same("fed", x.kind(kind, 6), 1);
            check.same("use", x.rail(kind, 1), 1);
        }
        check.same("rolled over 0", x.rail(0, 9), 2);
        check.same("rolled over 1", x.rail(1, 9), 1);
        check.same("rolled over 2", x.rail(2, 9), 0);
        CoinRails big = oneKind(4000, 0);
        check.same("feed of a reject", big.feed(0, 0), NONE);
        check.same("reject", big.kind(0, 5), 1);
        check.same("rolled over the last", big.rail(5, 9), 1);
        check.same("no use by a reject", big.rail(5, 1), 0);
    }

    private static void promise5FeedWear() {
        CoinRails x = oneKind(1903, 1);
        check.same("a worn coin gets stuck", x.feed(0, 3), 11);
        check.same("stuck kind", x.rail(1, 3), 0);
        check.same("its wear grew at rail 0", x.rail(1, 4), 4);
        check.same("use of the stuck rail", x.rail(1, 1), 0);
        check.same("its bag", x.rail(1, 2), 0);
        check.same("it did not roll over its rail", x.rail(1, 9), 0);
        check.same("a small one falls ahead of the stuck rail", x.feed(0, 500), 0);
        check.same("the next rolls over the stuck rail", x.feed(0, 10), 2);
        check.same("rolled over the stuck rail", x.rail(1, 9), 1);

        // Just small enough by the wear of one rail, and not without it.
        CoinRails y = oneKind(1900, 1);
        check.same("falls with the wear of rail 0", y.feed(0, 4), 1);
        check.same("is stuck with less", y.feed(0, 3), 11);

        // Five rails wear off 5, but not beyond 999.
        CoinRails z = oneKind(4000, 5);
        for (int rail = 0; rail < 5; rail++) {
            z.setGap(rail, 900);
        }
        z.setGap(5, 3003);
        check.same("wear stops at 999", z.where(0, 998), 15);
        check.same("stuck at 999", z.feed(0, 998), 15);
        check.same("wear when it got stuck", z.rail(5, 4), 999);
        z.free(5);
        z.setGap(5, 3001);
        check.same("a reject, for the wear is 999 at most", z.feed(0, 999), NONE);
        z.setGap(5, 3006);
        check.same("falls", z.feed(0, 999), 5);

        CoinRails tiny = oneKind(1000, 0);
        tiny.setGap(0, 900);
        check.same("size 1 falls", tiny.feed(0, 999), 0);
        check.same("a size of the gap rolls", tiny.feed(0, 100), 1);
    }

    private static void promise5FeedUse() {
        CoinRails x = oneKind(1490, 0);
        feedTimes(x, 19, 0, 0);
        check.same("use of 19", x.rail(0, 1), 19);
        check.same("gap", x.rail(0, 0), 1500);
        x.feed(0, 0);
        check.same("use of 20", x.rail(0, 1), 0);
        check.same("gap grew", x.rail(0, 0), 1501);
        x.takeBag(0);
        feedTimes(x, 21, 0, 0);
        check.same("use of 41", x.rail(0, 1), 1);
        check.same("gap grew again", x.rail(0, 0), 1502);
        x.takeBag(0);
        x.setGap(0, 4100);
        feedTimes(x, 20, 0, 0);
        check.same("gap grows up to 4100", x.rail(0, 0), 4100);
        check.same("use at 4100", x.rail(0, 1), 0);
        x.setGap(0, 4099);
        feedTimes(x, 20, 0, 0);
        check.same("gap grows to 4100", x.rail(0, 0), 4100);

        // A gap that grew makes room for what got stuck before.
        CoinRails y = new CoinRails();
        y.addKind(1496, 1, 0);
        y.addKind(1400, 1, 0);
        check.same("stuck by 4", y.where(0, 0), 10);
        feedTimes(y, 20, 1, 0);
        check.same("falls by 5", y.feed(0, 0), 0);
    }

    private static void promise5FeedFullBag() {
        CoinRails x = oneKind(1490, 0);
        feedTimes(x, 39, 0, 0);
        check.same("the 40th falls", x.feed(0, 0), 0);
        check.same("full", x.value(9), 1);
        check.same("the 41st rolls on", x.feed(0, 0), 1);
        check.same("rolled over the full one", x.rail(0, 9), 1);
        check.same("use stays", x.rail(0, 1), 0);
        for (int rail = 1; rail < 6; rail++) {
            for (int coins = x.rail(rail, 2); coins < 40; coins++) {
                check.same("falls on", x.feed(0, 0), rail);
            }
        }
        check.same("all full", x.value(9), 6);
        check.same("a reject", x.feed(0, 0), NONE);
        x.takeBag(3);
        check.same("the other bags stay", x.value(2), 200);
        check.same("the one empty bag", x.feed(0, 0), 3);
    }

    private static void promise5FeedWrong() {
        CoinRails x = threeKinds();
        check.fails("feed kind -1", x, Check.INDEX, () -> x.feed(-1, 0));
        check.fails("feed kind 3", x, Check.INDEX, () -> x.feed(3, 0));
        check.fails("feed kind 3, wear -1", x, Check.INDEX, () -> x.feed(3, -1));
        check.fails("feed wear -1", x, Check.ARGUMENT, () -> x.feed(0, -1));
        check.fails("feed wear 1000", x, Check.ARGUMENT, () -> x.feed(0, 1000));
        check.fails("feed without kinds", x, Check.INDEX, () -> new CoinRails().feed(0, 0));
        check.same("wear 999", x.feed(0, 999), 0);
    }

    private static void promise6FeedSome() {
        CoinRails x = threeKinds();
        check.undoable("feedSome", x, () -> x.feedSome(30, 77));
        // s becomes 1103527590, 377401575, 662824084: kinds 2, 1, 0; wears 12, 39, 32.
        check.same("feedSome", x.feedSome(1, 1), 0);
        check.same("the first is of kind 2", x.kind(2, 6), 1);
        check.same("feedSome again", x.feedSome(2, 1), 0);
        check.same("none of kind 0", x.kind(0, 6), 0);
        check.same("the second is of kind 1", x.kind(1, 6), 1);
        check.same("feedSome of three", x.feedSome(3, 1), 0);
        check.same("the third is of kind 0", x.kind(0, 6), 1);
        check.same("fed", x.value(1), 6);

        CoinRails first = oneKind(1012, 0);
        first.setGap(0, 1001);
        check.same("a stuck coin is no reject", first.feedSome(1, 1), 0);
        check.same("the wear of the first", first.rail(0, 4), 12);

        CoinRails y = oneKind(1039, 0);
        int[] gaps = {1001, 1000, 1011, 900, 900, 900};
        for (int rail = 0; rail < 6; rail++) {
            y.setGap(rail, gaps[rail]);
        }
        check.same("the first is a reject", y.feedSome(3, 1), 1);
        check.same("the second gets stuck", y.rail(0, 4), 39);
        check.same("the third rolls over it and falls", y.count(2, 0), 1);

        CoinRails z = oneKind(4000, 0);
        check.same("all are rejects", z.feedSome(200, 999999), 200);
        check.same("fed", z.value(1), 200);
        check.same("no coins", z.feedSome(0, 0), 0);
        check.same("earlier rejects do not count", z.feedSome(2, 0), 2);
        check.same("three states", z.undo(), 3);
        for (int[] a : new int[][] {{-1, 0}, {201, 0}, {0, -1}, {0, 1000000}, {Integer.MAX_VALUE, 0}}) {
            check.fails("feedSome wrong", z, Check.ARGUMENT, () -> z.feedSome(a[0], a[1]));
        }
        CoinRails none = new CoinRails();
        check.fails("feedSome without kinds", none, Check.STATE, () -> none.feedSome(0, 0));
        check.fails("feedSome wrong, without kinds", none, Check.ARGUMENT, () -> none.feedSome(201, 0));
    }

    private static void promise7Free() {
        CoinRails x = new CoinRails();
        x.addKind(1490, 5, 0);
        x.addKind(1498, 7, 0);
        feedTimes(x, 5, 0, 0);
        check.same("stuck", x.feed(1, 0), 10);
        check.same("stuck rails", x.value(3), 1);
        check.undoable("free", x, () -> x.free(0));
        check.same("free", x.free(0), 1);
        check.same("in the bag", x.count(0, 1), 1);
        check.same("coins in the bag", x.rail(0, 2), 6);
        check.same("use stays", x.rail(0, 1), 5);
        check.same("not stuck", x.rail(0, 3), NONE);
        check.same("no stuck wear", x.rail(0, 4), NONE);
        check.same("none are stuck", x.value(3), 0);
        check.same("fed", x.value(1), 6);
        check.fails("free again", x, Check.STATE, () -> x.free(0));
        check.fails("free of another", x, Check.STATE, () -> x.free(5));
        for (int rail : NO_INDEX) {
            check.fails("free rail " + rail, x, Check.INDEX, () -> x.free(rail));
        }
        feedTimes(x, 33, 0, 0);
        x.setGap(0, 1500);
        check.same("stuck over 39", x.feed(1, 0), 10);
        check.same("free into the last room", x.free(0), 1);
        check.same("full", x.value(9), 1);
        check.same("no reject", x.value(4), 0);
        check.same("use of a filled rail", x.rail(0, 1), 0);
    }

    private static void promise8TakeBag() {
        CoinRails x = threeKinds();
        x.addKind(1498, 9, 0);
        feedTimes(x, 3, 0, 0);
        x.feed(1, 400);
        x.feed(1, 0);
        x.feed(3, 0);
        check.undoable("takeBag", x, () -> x.takeBag(0));
        check.same("takeBag", x.takeBag(0), 4);
        check.same("empty", x.rail(0, 2), 0);
        check.same("no coin of kind 1", x.count(0, 1), 0);
        check.same("other bag", x.rail(1, 2), 1);
        check.same("the stuck coin stays", x.rail(0, 3), 3);
        check.same("use stays", x.rail(0, 1), 4);
        check.same("taken", x.value(5), 4);
        check.same("takeBag of an empty one", x.takeBag(0), 0);
        check.same("takeBag of another", x.takeBag(1), 1);
        check.same("taken together", x.value(5), 5);
        check.same("fed", x.value(1), 6);
        for (int rail : NO_INDEX) {
            check.fails("takeBag rail " + rail, x, Check.INDEX, () -> x.takeBag(rail));
        }
    }

    private static void promise9TakeRejects() {
        CoinRails x = new CoinRails();
        x.addKind(4000, 1, 0);
        x.addKind(3900, 1, 0);
        check.same("none", x.takeRejects(), 0);
        check.same("still undoable", x.undo(), 2);
        feedTimes(x, 2, 0, 0);
        feedTimes(x, 3, 1, 0);
        check.undoable("takeRejects", x, () -> x.takeRejects());
        check.same("takeRejects", x.takeRejects(), 5);
        check.same("no rejects", x.value(4), 0);
        check.same("of kind 1", x.kind(1, 5), 0);
        check.same("taken", x.value(5), 5);
        check.same("fed", x.kind(1, 6), 3);
        x.feed(1, 0);
        check.same("takeRejects again", x.takeRejects(), 1);
        check.same("taken together", x.value(5), 6);
    }

    private static void promise10Kind() {
        CoinRails x = threeKinds();
        x.addKind(4000, 500, 2);
        x.addKind(1497, 3, 1);
        x.feed(0, 0);
        x.feed(2, 0);
        x.feed(2, 391);
        x.feed(2, 800);
        feedTimes(x, 2, 3, 0);
        x.feed(4, 0);
        int[][] due = {
            {1490, 5, 0, 1, 0, 0, 1}, {1880, 20, 1, 0, 0, 0, 0}, {2290, 100, 2, 2, 1, 0, 3},
            {4000, 500, 2, 0, 0, 2, 2}, {1497, 3, 1, 0, 1, 0, 1},
        };
        for (int kind = 0; kind < due.length; kind++) {
            for (int what = 0; what < 7; what++) {
                check.same("kind(" + kind + ", " + what + ")", x.kind(kind, what), due[kind][what]);
            }
        }
        x.takeBag(2);
        x.takeRejects();
        check.same("in bags after takeBag", x.kind(2, 3), 1);
        check.same("rejects after takeRejects", x.kind(3, 5), 0);
        check.same("fed after both", x.kind(3, 6) + x.kind(2, 6), 5);
        check.harmless("kind", x, () -> x.kind(2, 3));
        check.fails("kind -1", x, Check.INDEX, () -> x.kind(-1, 0));
        check.fails("kind 5", x, Check.INDEX, () -> x.kind(5, 0));
        check.fails("kind 5, what 7", x, Check.INDEX, () -> x.kind(5, 7));
        check.fails("what -1", x, Check.ARGUMENT, () -> x.kind(0, -1));
        check.fails("what 7", x, Check.ARGUMENT, () -> x.kind(0, 7));
    }

    private static void promise11Rail() {
        CoinRails x = threeKinds();
        x.addKind(1890, 30, 1);
        x.setHome(0, 3);
        x.setHome(1, 4);
        feedTimes(x, 2, 1, 0);
        x.feed(3, 0);
        x.feed(0, 0);
        x.feed(2, 392);
        // Rail 1: kinds 1 and 3 in its bag, stuck by kind 2; only kind 3 should fall on it.
        int[][] due = {
            {1500, 1, 1, NONE, NONE, 0, 5, 1, NONE, 4},
            {1900, 3, 3, 2, 393, 90, 70, 2, 3, 0},
            {2300, 0, 0, NONE, NONE, 0, 0, 0, 2, 0},
            {2700, 0, 0, NONE, NONE, 0, 0, 0, 0, 0},
        };
        for (int rail = 0; rail < due.length; rail++) {
            for (int what = 0; what < 10; what++) {
                check.same("rail(" + rail + ", " + what + ")", x.rail(rail, what), due[rail][what]);
            }
        }
        x.setHome(1, 1);
        check.same("the lowest kind of two", x.rail(1, 8), 1);
        check.same("worth by the lowest", x.rail(1, 5), 60);
        check.same("misfits by now", x.rail(1, 7), 0);
        x.takeBag(1);
        check.same("true worth when taken", x.rail(1, 6), 0);
        check.same("rolled stays when taken", x.rail(0, 9), 4);
        check.harmless("rail", x, () -> x.rail(1, 3));
        for (int rail : NO_INDEX) {
            check.fails("rail " + rail, x, Check.INDEX, () -> x.rail(rail, 10));
        }
        check.fails("what -1", x, Check.ARGUMENT, () -> x.rail(0, -1));
        check.fails("what 10", x, Check.ARGUMENT, () -> x.rail(0, 10));
    }

    private static void promise12Count() {
        CoinRails x = threeKinds();
        feedTimes(x, 2, 0, 0);
        x.feed(2, 0);
        x.feed(2, 389);
        x.feed(2, 396);
        int[][] due = {{2, 0, 0}, {0, 0, 1}, {0, 0, 2}, {0, 0, 0}, {0, 0, 0}, {0, 0, 0}};
        for (int rail = 0; rail < 6; rail++) {
            for (int kind = 0; kind < 3; kind++) {
                check.same("count(" + rail + ", " + kind + ")", x.count(rail, kind), due[rail][kind]);
            }
        }
        check.harmless("count", x, () -> x.count(2, 2));
        for (int no : NO_INDEX) {
            check.fails("count rail " + no, x, Check.INDEX, () -> x.count(no, 0));
            check.fails("count kind " + no, x, Check.INDEX, () -> x.count(0, no));
        }
        check.fails("count kind 3", x, Check.INDEX, () -> x.count(0, 3));
    }

    private static void promise13Value() {
        CoinRails x = threeKinds();
        x.addKind(4000, 500, 5);
        feedTimes(x, 41, 0, 0);
        feedTimes(x, 2, 1, 0);
        x.feed(2, 0);
        feedTimes(x, 3, 3, 0);
        x.feed(2, 390);
        // Bag 0 is full, its 41st coin is in bag 1, the last coin is stuck there, and kind 3 is too big.
        values(x, new int[] {4, 48, 44, 1, 3, 0, 1, 360, 345, 1});
        x.takeRejects();
        values(x, new int[] {4, 48, 44, 1, 0, 3, 1, 360, 345, 1});
        x.takeBag(1);
        values(x, new int[] {4, 48, 41, 1, 0, 6, 0, 300, 300, 1});
        x.takeBag(0);
        values(x, new int[] {4, 48, 1, 1, 0, 46, 0, 100, 100, 0});
        x.setHome(2, 3);
        values(x, new int[] {4, 48, 1, 1, 0, 46, 1, 0, 100, 0});
        x.free(1);
        values(x, new int[] {4, 48, 2, 0, 0, 46, 2, 20, 200, 0});
        check.harmless("value", x, () -> x.value(7));
        check.fails("what -1", x, Check.ARGUMENT, () -> x.value(-1));
        check.fails("what 10", x, Check.ARGUMENT, () -> x.value(10));
        check.fails("what of the least", x, Check.ARGUMENT, () -> x.value(Integer.MIN_VALUE));
    }

    private static void values(CoinRails x, int[] due) {
        for (int what = 0; what < due.length; what++) {
            check.same("value(" + what + ")", x.value(what), due[what]);
        }
    }

    private static void promise14Where() {
        CoinRails x = threeKinds();
        x.addKind(4000, 500, 5);
        int[][] due = {
            {0, 0, 0}, {0, 999, 0}, {1, 0, 1}, {1, 380, 1}, {1, 381, 10}, {1, 384, 10}, {1, 385, 0},
            {2, 0, 2}, {2, 389, 2}, {2, 390, 11}, {2, 393, 11}, {2, 394, 1}, {3, 0, NONE}, {3, 495, NONE}, {3, 496, 15},
        };
        for (int[] a : due) {
            check.same("where(" + a[0] + ", " + a[1] + ")", x.where(a[0], a[1]), a[2]);
        }
        check.harmless("where", x, () -> x.where(2, 390));
        feedTimes(x, 40, 0, 0);
        check.same("where with a full bag", x.where(0, 0), 1);
        x.feed(2, 390);
        check.same("where with a stuck rail", x.where(0, 0), 2);
        check.fails("where kind -1", x, Check.INDEX, () -> x.where(-1, 0));
        check.fails("where kind 4", x, Check.INDEX, () -> x.where(4, 1000));
        check.fails("where wear -1", x, Check.ARGUMENT, () -> x.where(0, -1));
        check.fails("where wear 1000", x, Check.ARGUMENT, () -> x.where(0, 1000));
    }

    private static void promise15MostWear() {
        CoinRails x = threeKinds();
        check.same("mostWear on the first rail", x.mostWear(0), 999);
        check.same("mostWear behind one rail", x.mostWear(1), 380);
        check.same("mostWear behind two rails", x.mostWear(2), 389);
        check.harmless("mostWear", x, () -> x.mostWear(2));
        x.feed(2, 390);
        check.same("mostWear behind a stuck rail", x.mostWear(2), 790);
        check.same("mostWear on a stuck rail", x.mostWear(1), NONE);
        feedTimes(x, 40, 0, 0);
        check.same("mostWear on a full rail", x.mostWear(0), NONE);
        check.same("mostWear behind a full and a stuck rail", x.mostWear(2), 999);
        check.same("mostWear of one that gets stuck", oneKind(1496, 0).mostWear(0), NONE);
        check.same("mostWear of one that just falls", oneKind(1495, 0).mostWear(0), 999);
        check.same("mostWear of one that is too big", oneKind(4000, 2).mostWear(0), NONE);
        check.same("mostWear of one that falls ahead", oneKind(1200, 2).mostWear(0), NONE);
        check.same("mostWear of 0", oneKind(1500, 1).mostWear(0), 0);
        check.same("mostWear of 998", oneKind(2498, 1).mostWear(0), NONE);
        CoinRails y = oneKind(2498, 1);
        y.setGap(1, 4100);
        check.same("mostWear of 998", y.mostWear(0), 998);
        y.setGap(0, 1499);
        check.same("mostWear of 999", y.mostWear(0), 999);
        check.fails("mostWear kind -1", x, Check.INDEX, () -> x.mostWear(-1));
        check.fails("mostWear kind 3", x, Check.INDEX, () -> x.mostWear(3));
    }

    private static void promise16BestGap() {
        CoinRails x = threeKinds();
        int[] due = {1495, 1885, 2295, NONE, NONE, NONE};
        for (int rail = 0; rail < 6; rail++) {
            check.same("bestGap(" + rail + ")", x.bestGap(rail), due[rail]);
        }
        check.harmless("bestGap", x, () -> x.bestGap(1));
        x.addKind(1875, 1, 0);
        check.same("bestGap of two kinds", x.bestGap(0), 1880);
        x.setHome(3, 1);
        check.same("bestGap of two kinds on another rail", x.bestGap(1), 1885);
        x.setHome(3, 5);
        check.same("bestGap with a smaller one behind", x.bestGap(1), NONE);
        check.same("bestGap of that one", x.bestGap(5), 1880);
        feedTimes(x, 40, 0, 0);
        x.feed(1, 0);
        check.same("bestGap with a full bag", x.bestGap(0), 1495);
        x.setGap(0, 1491);
        x.takeBag(0);
        x.feed(0, 0);
        check.same("bestGap of a stuck rail", x.bestGap(0), 1495);

        CoinRails y = oneKind(1500, 0);
        y.addKind(1505, 1, 1);
        check.same("bestGap that is just the size of the next", y.bestGap(0), 1505);
        y.addKind(1504, 1, 1);
        check.same("bestGap is too large for the next", y.bestGap(0), NONE);
        check.same("bestGap of the least", oneKind(1000, 5).bestGap(5), 1005);
        check.same("bestGap of the greatest", oneKind(4000, 0).bestGap(0), 4005);
        check.same("bestGap without kinds", new CoinRails().bestGap(0), NONE);
        for (int rail : NO_INDEX) {
            check.fails("bestGap rail " + rail, x, Check.INDEX, () -> x.bestGap(rail));
        }
    }

    private static void promise17Supply() {
        CoinRails x = threeKinds();
        check.same("supply", x.supply(0), 40);
        check.harmless("supply", x, () -> x.supply(0));
        feedTimes(x, 3, 0, 0);
        check.same("supply after three", x.supply(0), 37);
        x.feed(1, 400);
        check.same("supply after a misfit", x.supply(0), 36);
        check.same("supply of another", x.supply(1), 40);
        x.feed(2, 390);
        check.same("supply on a stuck rail", x.supply(1), 0);
        check.same("supply behind a stuck rail", x.supply(2), 40);
        feedTimes(x, 36, 0, 0);
        check.same("supply on a full rail", x.supply(0), 0);
        x.setHome(0, 2);
        check.same("supply behind a full and a stuck rail", x.supply(0), 40);
        check.same("supply of one that gets stuck", oneKind(1496, 0).supply(0), 0);
        check.same("supply of one that just falls", oneKind(1495, 0).supply(0), 40);
        check.same("supply of one too big", oneKind(4000, 5).supply(0), 0);
        check.same("supply of one that falls ahead", oneKind(1000, 5).supply(0), 0);
        check.fails("supply kind -1", x, Check.INDEX, () -> x.supply(-1));
        check.fails("supply kind 3", x, Check.INDEX, () -> x.supply(3));
    }

    private static void promise18WorstKind() {
        CoinRails x = new CoinRails();
        check.same("worstKind without kinds", x.worstKind(), NONE);
        x.addKind(1490, 5, 0);
        x.addKind(1400, 20, 1);
        x.addKind(1300, 100, 2);
        x.addKind(4000, 100, 0);
        x.feed(0, 0);
        x.feed(3, 0);
        check.same("worstKind without misfits", x.worstKind(), NONE);
        feedTimes(x, 2, 2, 0);
        check.same("worstKind", x.worstKind(), 2);
        feedTimes(x, 2, 1, 0);
        check.same("worstKind of two", x.worstKind(), 1);
        x.feed(2, 0);
        check.same("worstKind with most", x.worstKind(), 2);
        check.harmless("worstKind", x, () -> x.worstKind());
        x.setHome(2, 0);
        check.same("worstKind when set right", x.worstKind(), 1);
        x.setHome(1, 0);
        check.same("worstKind when all are right", x.worstKind(), NONE);
        x.setHome(0, 4);
        x.setHome(2, 3);
        check.same("worstKind as it is set now", x.worstKind(), 2);
        x.takeBag(0);
        check.same("worstKind when taken", x.worstKind(), NONE);
    }

    private static void promise19Right() {
        CoinRails x = threeKinds();
        check.same("right without coins", x.right(), 1.0);
        x.addKind(4000, 1, 0);
        x.feed(3, 0);
        check.same("right with a reject alone", x.right(), 1.0);
        x.feed(0, 0);
        check.same("right", x.right(), 1.0);
        x.feed(1, 400);
        check.same("right of a half", x.right(), 0.5);
        x.feed(1, 0);
        check.same("right of two thirds", x.right(), 2.0 / 3.0);
        check.harmless("right", x, () -> x.right());
        x.setHome(0, 5);
        check.same("right of a third", x.right(), 1.0 / 3.0);
        x.setHome(1, 4);
        check.same("right of none", x.right(), 0.0);
        x.takeBag(0);
        x.takeBag(1);
        check.same("right when taken", x.right(), 1.0);
    }

    private static void promise20Append() {
        CoinRails x = threeKinds();
        check.fails("append -1", x, Check.ARGUMENT, () -> x.append(-1));
        check.fails("append 128", x, Check.ARGUMENT, () -> x.append(128));
        check.same("append 0", x.append(0), 1);
        check.same("append 127", x.append(127), 2);
        for (int length = 3; length <= 90; length++) {
            check.same("append", x.append(length), length);
        }
        check.fails("append to a full text", x, Check.STATE, () -> x.append('0'));
        check.fails("append of a wrong byte to a full text", x, Check.ARGUMENT, () -> x.append(128));
        check.same("append saves no state", x.undo(), 2);
        check.same("the text is not undone", x.clearText(), 90);
    }

    private static void promise21ClearText() {
        CoinRails x = threeKinds();
        check.same("clearText", x.clearText(), 0);
        write(x, "0;1;");
        check.same("clearText of four", x.clearText(), 4);
        check.same("clearText again", x.clearText(), 0);
        check.same("append begins anew", x.append('0'), 1);
        x.append(';');
        check.same("the old text is gone", x.parse(), 1);
        check.same("clearText saves no state", x.undo(), 3);
        check.same("the text is not undone", x.clearText(), 2);
    }

    private static void promise22Parse() {
        CoinRails x = threeKinds();
        write(x, "0;1w25;2w389;2w0;0w999;1w007;");
        check.undoable("parse", x, () -> x.parse());
        check.same("parse", x.parse(), 6);
        check.same("kind 0", x.count(0, 0), 2);
        check.same("kind 1", x.count(1, 1), 2);
        check.same("kind 2", x.count(2, 2), 2);
        check.same("the text stays", x.parse(), 6);
        check.same("fed twice", x.value(1), 12);
        x.clearText();
        check.undoable("parse of no coins", x, () -> x.parse());
        check.same("parse of no coins", x.parse(), 0);

        // The second gets stuck; the third rolls over it; the fourth is too big; the fifth falls.
        x.addKind(4000, 1, 0);
        check.same("parse of coins that do not fall", parse(x, "0;2w390;1;3w1;0;"), 3);
        check.same("stuck wear", x.rail(1, 4), 391);
        check.same("over the stuck rail", x.count(2, 1), 1);
        check.same("a reject", x.kind(3, 5), 1);
        check.same("one saved state", x.undo(), 3);
        check.same("all undone", x.value(3) + x.value(4), 0);

        CoinRails y = threeKinds();
        StringBuilder text = new StringBuilder();
        for (int i = 0; i < 45; i++) {
            text.append("1;");
        }
        check.same("parse of 45 coins", parse(y, text.toString()), 45);
        check.same("40 in the bag", y.rail(1, 2), 40);
        check.same("five beyond", y.rail(2, 2), 5);
        check.same("use by them", y.rail(1, 0), 1902);

        CoinRails none = new CoinRails();
        check.same("parse without kinds", none.parse(), 0);
        check.same("parse without kinds is saved", none.undo(), 0);
        check.same("parse of a kind that there is not", parse(none, "0;"), -10);
        none.addKind(1000, 1, 0);
        check.same("parse of a kind that there is now", none.parse(), 1);
        for (int kind = 1; kind < 6; kind++) {
            none.addKind(1000, 1, 0);
        }
        check.same("parse of the last kind", parse(none, "5;"), 1);
        check.same("parse of one beyond", parse(none, "5;6;"), -12);
    }

    private static void promise22ParseErrors() {
        CoinRails x = threeKinds();
        String[] texts = {
            "x", ";", "3;", "9;", ":;", "/;", " 0;", "w1;", "0", "00;", "0x", "0W1;", "0 ;", "0w", "0w;", "0w ",
            "0w:;", "0w/;", "0w-1;", "0ww1;", "0w1", "0w12", "0w123", "0w1234;", "0w0000", "0w1x", "0w1w", "0w12w;",
            "0w123w", "0;0", "0;;", "0; 1;", "0;3;", "0w1;1", "2;0w999;1w9999;", "0;0w", "0;\0",
        };
        int[] due = {
            0, 0, 0, 0, 0, 0, 0, 0, 1, 1, 1, 1, 1, 2, 2, 2,
            2, 2, 2, 2, 3, 4, 5, 5, 5, 3, 3, 4,
            5, 3, 2, 2, 2, 5, 13, 4, 2,
        };
        for (int i = 0; i < texts.length; i++) {
            write(x, texts[i]);
            check.same("parse of " + texts[i], x.parse(), -10 - due[i]);
            check.harmless("parse of " + texts[i], x, () -> x.parse());
            check.same("length after parse of " + texts[i], x.append('0'), texts[i].length() + 1);
        }
        check.same("nothing was fed", x.value(1), 0);
        x.clearText();
        for (int i = 0; i < 44; i++) {
            x.append('0');
            x.append(';');
        }
        x.append('1');
        x.append('w');
        check.same("parse of a full text that ends too early", x.parse(), -100);
        check.same("nothing was fed at all", x.value(1), 0);
        check.same("nothing was saved", x.undo(), 2);
    }

    private static void promise23Undo() {
        CoinRails x = new CoinRails();
        check.fails("undo of nothing", x, Check.STATE, () -> x.undo());
        for (int kind = 0; kind < 6; kind++) {
            x.addKind(1400 + kind, 1, 0);
        }
        for (int left = 3; left >= 0; left--) {
            check.same("undo", x.undo(), left);
            check.same("kinds after undo", x.value(0), left + 2);
        }
        check.fails("undo of a fifth", x, Check.STATE, () -> x.undo());
        check.same("addKind after undo", x.addKind(1300, 1, 0), 2);
        check.same("diameter after undo", x.kind(2, 0), 1300);
        check.same("a kind after undo has no coins", x.kind(2, 6), 0);

        x.feed(0, 0);
        x.append('0');
        x.setHome(0, 0);
        check.fails("a call that fails saves nothing", x, Check.STATE, () -> x.free(0));
        x.digest();
        check.same("undo of what changed nothing", x.undo(), 2);
        check.same("the coin is still there", x.value(1), 1);
        check.same("undo of the coin", x.undo(), 1);
        check.same("the coin is gone", x.value(1), 0);
        check.same("its use is gone", x.rail(0, 1), 0);
        check.same("the text stays", x.clearText(), 1);
        check.same("undo of the kind", x.undo(), 0);
        check.same("kinds", x.value(0), 2);
        x.addKind(1490, 1, 0);
        x.feed(2, 0);
        x.undo();
        x.undo();
        x.addKind(1490, 1, 0);
        check.same("a kind added again has no coins", x.kind(2, 3) + x.kind(2, 6), 0);
        undoOfEverything();
    }

    private static void undoOfEverything() {
        CoinRails x = threeKinds();
        x.addKind(4000, 1, 5);
        parse(x, "0;1;2w390;3;1;");
        x.takeBag(0);
        check.undoable("undo of a feed", x, () -> x.feed(0, 5));
        check.undoable("undo of some", x, () -> x.feedSome(200, 5));
        check.undoable("undo of a gap", x, () -> x.setGap(0, 1000));
        check.undoable("undo of a home", x, () -> x.setHome(1, 0));
        check.undoable("undo of free", x, () -> x.free(1));
        check.undoable("undo of a bag", x, () -> x.takeBag(1));
        check.undoable("undo of rejects", x, () -> x.takeRejects());
        check.undoable("undo of parse", x, () -> x.parse());
        check.undoable("undo of a kind", x, () -> x.addKind(1000, 1, 1));
    }

    private static void promise24Digest() {
        CoinRails x = new CoinRails();
        check.same("digest of a new one", x.digest(), hash(hashOfNew()));
        threeKindsAndMore(x);
        check.same("digest", x.digest(), hash(valuesOf(x, 3, 4)));
        check.harmless("digest", x, () -> x.digest());
        long before = x.digest();
        x.append('0');
        check.same("digest counts the text", x.digest(), hash(valuesOf(x, 4, 4)));
        check.same("digest differs", before == x.digest() ? 1 : 0, 0);
        x.undo();
        check.same("digest counts the states", x.digest(), hash(valuesOf(x, 4, 3)));
    }

    /** The sixth kind and the sixth rail count in all that is summed, taken and undone. */
    private static void lastKindAndLastRail() {
        CoinRails x = new CoinRails();
        for (int kind = 0; kind < 6; kind++) {
            x.addKind(1490 + 400 * kind, 10 + kind, kind);
        }
        for (int kind = 0; kind < 6; kind++) {
            check.same("falls home", x.feed(kind, 0), kind);
        }
        x.feed(5, 1000 - 5);
        feedTimes(x, 2, 5, 0);
        check.same("bag 5", x.rail(5, 2), 3);
        check.same("of kind 5", x.kind(5, 3), 4);
        values(x, new int[] {6, 9, 9, 0, 0, 0, 1, 10 + 11 + 12 + 2 * 13 + 14 + 45, 10 + 11 + 12 + 13 + 14 + 60, 0});
        check.undoable("last use", x, () -> x.feed(5, 0));
        check.same("supply of the last", x.supply(5), 37);
        feedTimes(x, 37, 5, 0);
        check.same("use of the last", x.rail(5, 0), 3502);
        check.same("a reject of the last", x.feed(5, 0), NONE);
        values(x, new int[] {6, 47, 46, 0, 1, 0, 1, 73 + 600, 60 + 15 + 600, 1});
        check.undoable("last rejects", x, () -> x.takeRejects());
        check.undoable("last bag", x, () -> x.takeBag(5));
        check.undoable("last home", x, () -> x.setHome(5, 0));
        check.undoable("last gap", x, () -> x.setGap(5, 3000));
        check.same("gap undone", x.rail(5, 0), 3502);
        check.same("take the last reject", x.takeRejects(), 1);
        check.same("it is gone", x.kind(5, 5), 0);
        check.same("take the last bag", x.takeBag(5), 40);
        check.same("its coins are gone", x.count(5, 5), 0);
        x.takeBag(2);
        check.same("the bag behind the taken one", x.count(3, 3), 1);
        check.same("the last kind in it", x.count(3, 5), 1);
        x.takeBag(3);
        check.same("the last kind is taken", x.count(3, 5), 0);
        check.same("the bag ahead of the taken one", x.count(1, 1), 1);

        x.setGap(5, 3486);
        check.same("stuck in the last", x.feed(5, 0), 15);
        check.same("stuck rails", x.value(3), 1);
        check.same("stuck of the last kind", x.kind(5, 4), 1);
        check.undoable("last free", x, () -> x.free(5));
        check.same("its wear", x.rail(5, 4), 5);
        check.same("free the last", x.free(5), 5);
        check.undoable("last stuck", x, () -> x.feed(5, 0));
        check.same("not stuck", x.rail(5, 3), NONE);
        x.setHome(5, 4);
        check.same("misfits in the last", x.value(6), 1);
        check.same("the last kind is the worst", x.worstKind(), 5);
        x.setHome(0, 1);
        check.same("the first is the worst", x.worstKind(), 0);
    }

    private static void threeKindsAndMore(CoinRails x) {
        x.addKind(1490, 5, 0);
        x.addKind(1880, 20, 1);
        x.addKind(2290, 100, 1);
        x.feed(2, 390);
        x.feedSome(50, 1234);
        write(x, "0;1");
    }

    private static long[] hashOfNew() {
        long[] due = new long[11 + 60 + 1];
        for (int rail = 0; rail < 6; rail++) {
            due[11 + 10 * rail] = 1500 + 400 * rail;
            due[11 + 10 * rail + 3] = -1;
            due[11 + 10 * rail + 4] = -1;
            due[11 + 10 * rail + 8] = -1;
        }
        return due;
    }

    private static long[] valuesOf(CoinRails x, int length, int states) {
        long[] values = new long[11 + 3 * 8 + 6 * 13 + 1];
        int at = 0;
        values[at++] = length;
        for (int what = 0; what <= 9; what++) {
            values[at++] = x.value(what);
        }
        for (int kind = 0; kind < 3; kind++) {
            for (int what = 0; what <= 6; what++) {
                values[at++] = x.kind(kind, what);
            }
            values[at++] = x.mostWear(kind);
        }
        for (int rail = 0; rail < 6; rail++) {
            for (int what = 0; what <= 9; what++) {
                values[at++] = x.rail(rail, what);
            }
            for (int kind = 0; kind < 3; kind++) {
                values[at++] = x.count(rail, kind);
            }
        }
        values[at] = states;
        return values;
    }

    private static long hash(long[] values) {
        long hash = 3593;
        for (long value : values) {
            hash = 31 * hash + value;
        }
        return hash;
    }
}
