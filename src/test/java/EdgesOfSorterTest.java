import java.util.function.Supplier;

/** Boundary cases of the promises 1 to 13: a test for each sentence that names one. */
public final class EdgesOfSorterTest {
    private static final int NONE = Edges.NONE;
    private static final int LEAST = Integer.MIN_VALUE;
    private static final int MOST = Integer.MAX_VALUE;

    public static void main(String[] args) {
        Edges.run(EdgesOfSorterTest.class);
    }

    private static void same(String what, long got, long due) {
        Edges.same(what, got, due);
    }

    /** Rail 0 is stuck by a coin of kind 1, with a number of coins of kind 0 in its bag. */
    private static CoinRails stuckOver(int coins) {
        CoinRails x = Edges.sorter(1400, 5, 0, 1498, 7, 0);
        for (int left = coins; left > 0; left -= 20) {
            Edges.fed(x, Math.min(20, left), 0, 0);
            x.setGap(0, 1500);
        }
        x.feed(1, 0);
        return x;
    }

    // ---- Promise 1: a new object

    static void promise01_thereAreNoKinds() {
        CoinRails x = new CoinRails();
        same("kinds", x.value(0), 0);
        for (int rail = 0; rail < 6; rail++) {
            same("kind of a rail", x.rail(rail, 8), NONE);
        }
        Edges.refused(Edges.INDEX, CoinRails::new, y -> y.kind(0, 0));
    }

    static void promise01_bagsAreEmpty() {
        CoinRails x = new CoinRails();
        same("coins in bags", x.value(2), 0);
        for (int rail = 0; rail < 6; rail++) {
            same("coins in the bag", x.rail(rail, 2), 0);
        }
    }

    static void promise01_noRailIsStuckOrUsed() {
        CoinRails x = new CoinRails();
        for (int rail = 0; rail < 6; rail++) {
            same("stuck kind", x.rail(rail, 3), NONE);
            same("stuck wear", x.rail(rail, 4), NONE);
            same("use", x.rail(rail, 1), 0);
            same("rolled over", x.rail(rail, 9), 0);
        }
    }

    static void promise01_noStateIsSaved() {
        Edges.refused(Edges.STATE, CoinRails::new, x -> x.undo());
    }

    static void promise01_textIsEmpty() {
        same("length", new CoinRails().clearText(), 0);
        same("first length", new CoinRails().append(0), 1);
    }

    static void promise01_allNumbersAre0() {
        CoinRails x = new CoinRails();
        for (int what = 0; what <= 9; what++) {
            same("value", x.value(what), 0);
        }
    }

    static void promise01_objectsAreApart() {
        Edges.harmless(CoinRails::new, x -> {
            CoinRails y = Edges.sorter(1400, 1, 0);
            y.feed(0, 0);
            y.setGap(5, 900);
            y.append('0');
        });
    }

    // ---- Promise 2: addKind

    static void promise02_diameter1000IsTheLeast() {
        same("allowed", new CoinRails().addKind(1000, 1, 0), 0);
        Edges.refused(Edges.ARGUMENT, Edges::busy, x -> x.addKind(999, 1, 0));
        Edges.refused(Edges.ARGUMENT, Edges::busy, x -> x.addKind(LEAST, 1, 0));
    }

    static void promise02_diameter4000IsTheGreatest() {
        CoinRails x = Edges.sorter(4000, 1, 0);
        same("allowed", x.kind(0, 0), 4000);
        Edges.refused(Edges.ARGUMENT, Edges::busy, y -> y.addKind(4001, 1, 0));
        Edges.refused(Edges.ARGUMENT, Edges::busy, y -> y.addKind(MOST, 1, 0));
    }

    static void promise02_value1IsTheLeast() {
        same("allowed", Edges.sorter(1000, 1, 0).kind(0, 1), 1);
        Edges.refused(Edges.ARGUMENT, Edges::busy, x -> x.addKind(1000, 0, 0));
        Edges.refused(Edges.ARGUMENT, Edges::busy, x -> x.addKind(1000, LEAST, 0));
    }

    static void promise02_value500IsTheGreatest() {
        same("allowed", Edges.sorter(1000, 500, 0).kind(0, 1), 500);
        Edges.refused(Edges.ARGUMENT, Edges::busy, x -> x.addKind(1000, 501, 0));
        Edges.refused(Edges.ARGUMENT, Edges::busy, x -> x.addKind(1000, MOST, 0));
    }

    static void promise02_rail0IsTheLeast() {
        same("allowed", Edges.sorter(1000, 1, 0).kind(0, 2), 0);
        Edges.refused(Edges.ARGUMENT, Edges::busy, x -> x.addKind(1000, 1, -1));
        Edges.refused(Edges.ARGUMENT, Edges::busy, x -> x.addKind(1000, 1, LEAST));
    }

    static void promise02_rail5IsTheGreatest() {
        same("allowed", Edges.sorter(1000, 1, 5).kind(0, 2), 5);
        Edges.refused(Edges.ARGUMENT, Edges::busy, x -> x.addKind(1000, 1, 6));
        Edges.refused(Edges.ARGUMENT, Edges::busy, x -> x.addKind(1000, 1, MOST));
    }

    static void promise02_sixthKindIsTheLast() {
        same("the sixth", Edges.home(5).addKind(4000, 500, 5), 5);
        Edges.refused(Edges.STATE, () -> Edges.home(6), x -> x.addKind(4000, 500, 5));
        Edges.refused(Edges.STATE, Edges::full, x -> x.addKind(1000, 1, 0));
    }

    static void promise02_sixthKindIsThereAgainWhenUndone() {
        CoinRails x = Edges.home(6);
        x.feed(5, 0);
        x.undo();
        x.undo();
        same("number", x.addKind(1000, 3, 2), 5);
        same("diameter", x.kind(5, 0), 1000);
        same("fed", x.kind(5, 6), 0);
        same("in bags", x.kind(5, 3), 0);
    }

    static void promise02_firstKindIsUndoable() {
        Edges.undoable(CoinRails::new, x -> x.addKind(1000, 1, 0));
    }

    static void promise02_sixthKindIsUndoable() {
        Edges.undoable(() -> {
            CoinRails x = Edges.fed(Edges.home(5), 2, 0, 0);
            x.undo();
            x.undo();
            return x;
        }, x -> x.addKind(4000, 500, 5));
    }

    // ---- Promise 3: setHome

    static void promise03_kindThereIsNone() {
        Edges.refused(Edges.INDEX, CoinRails::new, x -> x.setHome(0, 0));
    }

    static void promise03_kind0IsTheLeast() {
        same("allowed", Edges.busy().setHome(0, 3), 0);
        Edges.refused(Edges.INDEX, Edges::busy, x -> x.setHome(-1, 0));
        Edges.refused(Edges.INDEX, Edges::busy, x -> x.setHome(LEAST, 0));
    }

    static void promise03_lastKindIsTheGreatest() {
        same("allowed", Edges.busy().setHome(3, 0), 5);
        Edges.refused(Edges.INDEX, Edges::busy, x -> x.setHome(4, 0));
        same("allowed of six", Edges.full().setHome(5, 0), 4);
        Edges.refused(Edges.INDEX, Edges::full, x -> x.setHome(6, 0));
        Edges.refused(Edges.INDEX, Edges::busy, x -> x.setHome(MOST, 0));
    }

    static void promise03_rail0IsTheLeast() {
        CoinRails x = Edges.busy();
        same("allowed", x.setHome(3, 0), 5);
        same("set", x.kind(3, 2), 0);
        Edges.refused(Edges.ARGUMENT, Edges::busy, y -> y.setHome(3, -1));
        Edges.refused(Edges.ARGUMENT, Edges::busy, y -> y.setHome(3, LEAST));
    }

    static void promise03_rail5IsTheGreatest() {
        CoinRails x = Edges.busy();
        same("allowed", x.setHome(0, 5), 0);
        same("set", x.kind(0, 2), 5);
        Edges.refused(Edges.ARGUMENT, Edges::busy, y -> y.setHome(0, 6));
        Edges.refused(Edges.ARGUMENT, Edges::busy, y -> y.setHome(0, MOST));
    }

    static void promise03_answersThePreviousRail() {
        CoinRails x = Edges.busy();
        same("first", x.setHome(2, 4), 2);
        same("second", x.setHome(2, 4), 4);
        same("third", x.setHome(2, 0), 4);
    }

    static void promise03_isUndoable() {
        Edges.undoable(Edges::busy, x -> x.setHome(3, 0));
        Edges.undoable(Edges::busy, x -> x.setHome(0, 5));
    }

    // ---- Promise 4: setGap

    static void promise04_rail0IsTheLeast() {
        same("allowed", new CoinRails().setGap(0, 1000), 1500);
        Edges.refused(Edges.INDEX, Edges::busy, x -> x.setGap(-1, 1000));
        Edges.refused(Edges.INDEX, Edges::busy, x -> x.setGap(LEAST, 1000));
    }

    static void promise04_rail5IsTheGreatest() {
        same("allowed", new CoinRails().setGap(5, 1000), 3500);
        Edges.refused(Edges.INDEX, Edges::busy, x -> x.setGap(6, 1000));
        Edges.refused(Edges.INDEX, Edges::busy, x -> x.setGap(MOST, 1000));
    }

    static void promise04_gap900IsTheLeast() {
        CoinRails x = Edges.busy();
        x.setGap(0, 900);
        same("allowed", x.rail(0, 0), 900);
        Edges.refused(Edges.ARGUMENT, Edges::busy, y -> y.setGap(0, 899));
        Edges.refused(Edges.ARGUMENT, Edges::busy, y -> y.setGap(0, LEAST));
    }

    static void promise04_gap4100IsTheGreatest() {
        CoinRails x = Edges.busy();
        x.setGap(0, 4100);
        same("allowed", x.rail(0, 0), 4100);
        Edges.refused(Edges.ARGUMENT, Edges::busy, y -> y.setGap(0, 4101));
        Edges.refused(Edges.ARGUMENT, Edges::busy, y -> y.setGap(0, MOST));
    }

    static void promise04_stuckRailIsRefused() {
        Edges.refused(Edges.STATE, Edges::busy, x -> x.setGap(1, 2000));
        Edges.refused(Edges.STATE, Edges::full, x -> x.setGap(1, 1900));
        Edges.refused(Edges.STATE, () -> stuckOver(0), x -> x.setGap(0, 1500));
    }

    static void promise04_railBesideAStuckOneIsAllowed() {
        CoinRails x = Edges.busy();
        same("ahead of it", x.setGap(0, 2000), 1500);
        same("behind it", x.setGap(2, 2000), 2300);
    }

    static void promise04_freedRailIsAllowed() {
        CoinRails x = Edges.busy();
        x.free(1);
        same("allowed", x.setGap(1, 2000), 1900);
    }

    static void promise04_fullBagIsAllowed() {
        CoinRails x = Edges.fed(Edges.sorter(1400, 1, 0), 40, 0, 0);
        same("allowed", x.setGap(0, 4100), 1502);
        same("bag", x.rail(0, 2), 40);
    }

    static void promise04_useOf19Becomes0() {
        CoinRails x = Edges.fed(Edges.sorter(1400, 1, 0), 19, 0, 0);
        x.setGap(0, 1600);
        same("use", x.rail(0, 1), 0);
        x.feed(0, 0);
        same("use of one more", x.rail(0, 1), 1);
        same("gap", x.rail(0, 0), 1600);
    }

    static void promise04_useBecomes0WithTheSameGapToo() {
        CoinRails x = Edges.fed(Edges.sorter(1400, 1, 0), 19, 0, 0);
        x.setGap(0, 1500);
        same("use", x.rail(0, 1), 0);
    }

    static void promise04_useOfOtherRailsStays() {
        CoinRails x = Edges.fed(Edges.sorter(1400, 1, 0), 7, 0, 0);
        x.setGap(1, 1500);
        same("use", x.rail(0, 1), 7);
    }

    static void promise04_answersAGapThatGrew() {
        CoinRails x = Edges.fed(Edges.sorter(1400, 1, 0), 20, 0, 0);
        same("previous", x.setGap(0, 900), 1501);
    }

    static void promise04_isUndoable() {
        Edges.undoable(Edges::busy, x -> x.setGap(0, 900));
        Edges.undoable(Edges::busy, x -> x.setGap(5, 4100));
    }

    // ---- Promise 5: feed

    static void promise05_kindThereIsNone() {
        Edges.refused(Edges.INDEX, CoinRails::new, x -> x.feed(0, 0));
    }

    static void promise05_kind0IsTheLeast() {
        same("allowed", Edges.busy().feed(0, 0), 0);
        Edges.refused(Edges.INDEX, Edges::busy, x -> x.feed(-1, 0));
        Edges.refused(Edges.INDEX, Edges::busy, x -> x.feed(LEAST, 0));
    }

    static void promise05_lastKindIsTheGreatest() {
        same("allowed", Edges.busy().feed(3, 0), NONE);
        Edges.refused(Edges.INDEX, Edges::busy, x -> x.feed(4, 0));
        same("allowed of six", Edges.full().feed(5, 0), 4);
        Edges.refused(Edges.INDEX, Edges::full, x -> x.feed(6, 0));
        Edges.refused(Edges.INDEX, Edges::busy, x -> x.feed(MOST, 0));
    }

    static void promise05_wear0IsTheLeast() {
        same("allowed", Edges.sorter(1496, 1, 0).feed(0, 0), 10);
        Edges.refused(Edges.ARGUMENT, Edges::busy, x -> x.feed(0, -1));
        Edges.refused(Edges.ARGUMENT, Edges::busy, x -> x.feed(0, LEAST));
    }

    static void promise05_wear999IsTheGreatest() {
        same("allowed", Edges.sorter(2494, 1, 0).feed(0, 999), 0);
        Edges.refused(Edges.ARGUMENT, Edges::busy, x -> x.feed(0, 1000));
        Edges.refused(Edges.ARGUMENT, Edges::busy, x -> x.feed(0, MOST));
    }

    static void promise05_answersTheRailFrom0To5() {
        CoinRails x = Edges.home(6);
        for (int kind = 0; kind < 6; kind++) {
            same("falls", x.feed(kind, 0), kind);
            same("into that bag", x.count(kind, kind), 1);
        }
    }

    static void promise05_answers10To15ForAStuckOne() {
        for (int rail = 0; rail < 6; rail++) {
            CoinRails x = Edges.sorter(1499 + 401 * rail, 1, 0);
            same("gets stuck", x.feed(0, 0), 10 + rail);
            same("stuck kind", x.rail(rail, 3), 0);
        }
    }

    static void promise05_answersNoneForAReject() {
        CoinRails x = Edges.sorter(4000, 1, 0);
        same("reject", x.feed(0, 0), -1);
        same("rejects", x.value(4), 1);
    }

    static void promise05_fallIsUndoable() {
        Edges.undoable(Edges::busy, x -> x.feed(0, 0));
    }

    static void promise05_fallThatWidensTheGapIsUndoable() {
        Supplier<CoinRails> made = () -> {
            CoinRails x = Edges.fed(Edges.sorter(1400, 1, 0), 21, 0, 0);
            x.undo();
            x.undo();
            return x;
        };
        same("use", made.get().rail(0, 1), 19);
        Edges.undoable(made, x -> x.feed(0, 0));
    }

    static void promise05_gettingStuckIsUndoable() {
        Edges.undoable(() -> Edges.sorter(1498, 1, 0), x -> x.feed(0, 0));
    }

    static void promise05_rejectIsUndoable() {
        Edges.undoable(Edges::busy, x -> x.feed(3, 0));
    }

    static void promise05_rejectIsSavedOnce() {
        CoinRails x = Edges.busy();
        x.feed(3, 0);
        same("left", x.undo(), 2);
    }

    // ---- Promise 6: feedSome

    static void promise06_0CoinsAreTheLeast() {
        CoinRails x = Edges.sorter(4000, 1, 0);
        same("allowed", x.feedSome(0, 5), 0);
        same("fed", x.value(1), 0);
        Edges.refused(Edges.ARGUMENT, Edges::busy, y -> y.feedSome(-1, 0));
        Edges.refused(Edges.ARGUMENT, Edges::busy, y -> y.feedSome(LEAST, 0));
    }

    static void promise06_200CoinsAreTheMost() {
        CoinRails x = Edges.sorter(4000, 1, 0);
        same("allowed", x.feedSome(200, 5), 200);
        same("fed", x.value(1), 200);
        Edges.refused(Edges.ARGUMENT, Edges::busy, y -> y.feedSome(201, 0));
        Edges.refused(Edges.ARGUMENT, Edges::busy, y -> y.feedSome(MOST, 0));
    }

    static void promise06_s0IsTheLeast() {
        CoinRails x = Edges.gaps(Edges.sorter(1000, 1, 0), 1001);
        same("allowed", x.feedSome(1, 0), 0);
        same("wear", x.rail(0, 4), 0);
        Edges.refused(Edges.ARGUMENT, Edges::busy, y -> y.feedSome(1, -1));
        Edges.refused(Edges.ARGUMENT, Edges::busy, y -> y.feedSome(1, LEAST));
    }

    static void promise06_s999999IsTheGreatest() {
        CoinRails x = Edges.gaps(Edges.sorter(1030, 1, 0), 1001);
        same("allowed", x.feedSome(1, 999999), 0);
        same("wear", x.rail(0, 4), 30);
        Edges.refused(Edges.ARGUMENT, Edges::busy, y -> y.feedSome(1, 1000000));
        Edges.refused(Edges.ARGUMENT, Edges::busy, y -> y.feedSome(1, MOST));
    }

    static void promise06_argumentsAreCheckedFor0CoinsToo() {
        Edges.refused(Edges.ARGUMENT, Edges::busy, x -> x.feedSome(0, -1));
        Edges.refused(Edges.ARGUMENT, Edges::busy, x -> x.feedSome(0, 1000000));
    }

    static void promise06_withoutKindsItIsRefused() {
        Edges.refused(Edges.STATE, CoinRails::new, x -> x.feedSome(1, 0));
    }

    static void promise06_withoutKindsItIsRefusedFor0CoinsToo() {
        Edges.refused(Edges.STATE, CoinRails::new, x -> x.feedSome(0, 0));
    }

    static void promise06_withoutKindsAgainWhenUndone() {
        Edges.refused(Edges.STATE, () -> {
            CoinRails x = Edges.sorter(1400, 1, 0);
            x.undo();
            return x;
        }, x -> x.feedSome(0, 0));
    }

    static void promise06_stuckCoinIsNoReject() {
        CoinRails x = Edges.gaps(Edges.sorter(1012, 1, 0), 1001, 900, 900, 900, 900, 900);
        same("the one coin gets stuck", x.feedSome(1, 1), 0);
        same("stuck", x.value(3), 1);
    }

    static void promise06_rejectsFromBeforeAreNotCounted() {
        CoinRails x = Edges.fed(Edges.sorter(4000, 1, 0), 3, 0, 0);
        same("rejects among two", x.feedSome(2, 1), 2);
        same("rejects in all", x.value(4), 5);
    }

    static void promise06_isUndoneByOneUndo() {
        Edges.undoable(Edges::busy, x -> x.feedSome(200, 999999));
        Edges.undoable(Edges::busy, x -> x.feedSome(1, 0));
    }

    // ---- Promise 7: free

    static void promise07_rail0IsTheLeast() {
        same("allowed", stuckOver(0).free(0), 1);
        Edges.refused(Edges.INDEX, Edges::busy, x -> x.free(-1));
        Edges.refused(Edges.INDEX, Edges::busy, x -> x.free(LEAST));
    }

    static void promise07_rail5IsTheGreatest() {
        CoinRails x = Edges.fed(Edges.sorter(3503, 1, 0), 1, 0, 0);
        same("allowed", x.free(5), 0);
        Edges.refused(Edges.INDEX, Edges::busy, y -> y.free(6));
        Edges.refused(Edges.INDEX, Edges::busy, y -> y.free(MOST));
    }

    static void promise07_railThatIsNotStuckIsRefused() {
        Edges.refused(Edges.STATE, CoinRails::new, x -> x.free(0));
        Edges.refused(Edges.STATE, Edges::busy, x -> x.free(0));
        Edges.refused(Edges.STATE, Edges::busy, x -> x.free(2));
    }

    static void promise07_freedRailIsRefused() {
        Edges.refused(Edges.STATE, () -> {
            CoinRails x = Edges.busy();
            x.free(1);
            return x;
        }, x -> x.free(1));
    }

    static void promise07_answersKind0() {
        same("kind", Edges.fed(Edges.sorter(1498, 1, 5), 1, 0, 0).free(0), 0);
    }

    static void promise07_answersKind5() {
        CoinRails x = Edges.gaps(Edges.home(6), 3486);
        same("stuck", x.feed(5, 5), 10);
        same("kind", x.free(0), 5);
    }

    static void promise07_coinGoesIntoTheBag() {
        CoinRails x = stuckOver(0);
        x.free(0);
        same("of its kind", x.count(0, 1), 1);
        same("in the bag", x.rail(0, 2), 1);
        same("stuck", x.kind(1, 4), 0);
        same("rejects", x.value(4), 0);
    }

    static void promise07_coinGoesIntoTheLastRoom() {
        CoinRails x = stuckOver(39);
        same("coins", x.rail(0, 2), 39);
        same("kind", x.free(0), 1);
        same("in the bag", x.rail(0, 2), 40);
        same("full", x.value(9), 1);
        same("rejects", x.value(4), 0);
    }

    static void promise07_bagOfAStuckRailNeverFills() {
        // So no run of calls gets to a freed coin for which there is no room.
        CoinRails x = stuckOver(39);
        x.feedSome(200, 1);
        same("coins", x.rail(0, 2), 39);
        same("freed", x.free(0), 1);
        same("in the bag", x.count(0, 1), 1);
    }

    static void promise07_useOf19Stays() {
        CoinRails x = stuckOver(0);
        x.free(0);
        Edges.fed(x, 19, 0, 0);
        x.feed(1, 0);
        x.free(0);
        same("use", x.rail(0, 1), 19);
        same("gap", x.rail(0, 0), 1500);
        x.feed(0, 0);
        same("gap by the next that falls", x.rail(0, 0), 1501);
    }

    static void promise07_nothingIsStuckThere() {
        CoinRails x = stuckOver(1);
        x.free(0);
        same("stuck kind", x.rail(0, 3), NONE);
        same("stuck wear", x.rail(0, 4), NONE);
        same("falls again", x.feed(0, 0), 0);
    }

    static void promise07_coinGoesIntoTheBagOfTheLastRail() {
        CoinRails x = Edges.gaps(Edges.home(6), 900, 900, 900, 900, 900, 3486);
        same("stuck", x.feed(5, 0), 15);
        same("kind", x.free(5), 5);
        same("of its kind", x.count(5, 5), 1);
        same("in the bag", x.rail(5, 2), 1);
    }

    static void promise07_coinIsNotFedOnceMore() {
        CoinRails x = Edges.busy();
        x.free(1);
        same("fed", x.value(1), 11);
        same("of its kind", x.kind(2, 6), 1);
        same("rolled over rail 0", x.rail(0, 9), 4);
        same("rolled over its rail", x.rail(1, 9), 2);
    }

    static void promise07_otherStuckRailsStay() {
        CoinRails x = Edges.gaps(Edges.sorter(2000, 1, 0), 2001, 2000, 1999);
        Edges.fed(x, 3, 0, 0);
        x.free(1);
        same("stuck", x.value(3), 2);
        same("ahead", x.rail(0, 4), 0);
        same("behind", x.rail(2, 4), 2);
    }

    static void promise07_isUndoable() {
        Edges.undoable(Edges::busy, x -> x.free(1));
    }

    // ---- Promise 8: takeBag

    static void promise08_rail0IsTheLeast() {
        same("allowed", Edges.busy().takeBag(0), 4);
        Edges.refused(Edges.INDEX, Edges::busy, x -> x.takeBag(-1));
        Edges.refused(Edges.INDEX, Edges::busy, x -> x.takeBag(LEAST));
    }

    static void promise08_rail5IsTheGreatest() {
        CoinRails x = Edges.fed(Edges.sorter(3490, 1, 5), 2, 0, 0);
        same("allowed", x.takeBag(5), 2);
        Edges.refused(Edges.INDEX, Edges::busy, y -> y.takeBag(6));
        Edges.refused(Edges.INDEX, Edges::busy, y -> y.takeBag(MOST));
    }

    static void promise08_emptyBag() {
        CoinRails x = new CoinRails();
        same("coins", x.takeBag(3), 0);
        same("taken", x.value(5), 0);
        same("undo", x.undo(), 0);
    }

    static void promise08_fullBag() {
        CoinRails x = Edges.fed(Edges.sorter(1400, 1, 0), 40, 0, 0);
        same("coins", x.takeBag(0), 40);
        same("taken", x.value(5), 40);
        same("full bags", x.value(9), 0);
    }

    static void promise08_emptyBagComesInItsPlace() {
        CoinRails x = Edges.fed(Edges.sorter(1400, 1, 0), 40, 0, 0);
        x.takeBag(0);
        same("coins", x.rail(0, 2), 0);
        same("of the kind", x.count(0, 0), 0);
        for (int coin = 1; coin <= 40; coin++) {
            same("room again", x.feed(0, 0), 0);
        }
        same("no room again", x.feed(0, 0), 1);
    }

    static void promise08_stuckCoinStays() {
        CoinRails x = stuckOver(39);
        same("coins", x.takeBag(0), 39);
        same("stuck kind", x.rail(0, 3), 1);
        same("stuck wear", x.rail(0, 4), 0);
        same("freed", x.free(0), 1);
        same("into the new bag", x.rail(0, 2), 1);
    }

    static void promise08_otherBagsStay() {
        CoinRails x = Edges.home(6);
        for (int kind = 0; kind < 6; kind++) {
            x.feed(kind, 0);
        }
        x.takeBag(3);
        for (int rail = 0; rail < 6; rail++) {
            same("coins", x.rail(rail, 2), rail == 3 ? 0 : 1);
        }
    }

    static void promise08_coinsOfTheFirstAndTheSixthKindAreTaken() {
        CoinRails x = Edges.home(6);
        x.feed(0, 0);
        x.feed(5, 999);
        x.setGap(0, 3500);
        x.feed(5, 100);
        same("coins", x.takeBag(0), 2);
        same("of kind 0", x.count(0, 0), 0);
        same("of kind 5", x.count(0, 5), 0);
        same("of kind 5 elsewhere", x.kind(5, 3), 1);
    }

    static void promise08_useAndGapStay() {
        CoinRails x = Edges.fed(Edges.sorter(1400, 1, 0), 39, 0, 0);
        x.takeBag(0);
        same("use", x.rail(0, 1), 19);
        same("gap", x.rail(0, 0), 1501);
        x.feed(0, 0);
        same("use goes on", x.rail(0, 1), 0);
        same("gap goes on", x.rail(0, 0), 1502);
    }

    static void promise08_isUndoable() {
        Edges.undoable(Edges::busy, x -> x.takeBag(0));
        Edges.undoable(Edges::busy, x -> x.takeBag(1));
    }

    // ---- Promise 9: takeRejects

    static void promise09_noRejects() {
        CoinRails x = new CoinRails();
        same("rejects", x.takeRejects(), 0);
        same("taken", x.value(5), 0);
        same("undo", x.undo(), 0);
    }

    static void promise09_rejectsTakenAreGone() {
        CoinRails x = Edges.fed(Edges.sorter(4000, 1, 0, 3900, 1, 0), 2, 0, 0);
        x.feed(1, 0);
        same("rejects", x.takeRejects(), 3);
        same("rejects now", x.value(4), 0);
        same("of kind 0", x.kind(0, 5), 0);
        same("of kind 1", x.kind(1, 5), 0);
        same("again", x.takeRejects(), 0);
    }

    static void promise09_rejectsOfTheSixthKind() {
        CoinRails x = Edges.gaps(Edges.home(6), 900, 900, 900, 900, 900, 900);
        x.feed(5, 0);
        x.feed(0, 0);
        same("rejects", x.takeRejects(), 2);
        same("of the sixth", x.kind(5, 5), 0);
    }

    static void promise09_coinsInBagsAndStuckOnesStay() {
        CoinRails x = Edges.busy();
        same("rejects", x.takeRejects(), 1);
        same("in bags", x.value(2), 5);
        same("stuck", x.value(3), 1);
    }

    static void promise09_isUndoable() {
        Edges.undoable(Edges::busy, x -> x.takeRejects());
    }

    // ---- Promise 10: kind

    static void promise10_kindThereIsNone() {
        Edges.refused(Edges.INDEX, CoinRails::new, x -> x.kind(0, 0));
    }

    static void promise10_kind0IsTheLeast() {
        same("allowed", Edges.busy().kind(0, 0), 1490);
        Edges.refused(Edges.INDEX, Edges::busy, x -> x.kind(-1, 0));
        Edges.refused(Edges.INDEX, Edges::busy, x -> x.kind(LEAST, 0));
    }

    static void promise10_lastKindIsTheGreatest() {
        same("allowed", Edges.busy().kind(3, 0), 4000);
        Edges.refused(Edges.INDEX, Edges::busy, x -> x.kind(4, 0));
        same("allowed of six", Edges.full().kind(5, 0), 3090);
        Edges.refused(Edges.INDEX, Edges::full, x -> x.kind(6, 0));
        Edges.refused(Edges.INDEX, Edges::busy, x -> x.kind(MOST, 0));
    }

    static void promise10_what0IsTheLeast() {
        same("its diameter", Edges.busy().kind(2, 0), 2290);
        Edges.refused(Edges.ARGUMENT, Edges::busy, x -> x.kind(0, -1));
        Edges.refused(Edges.ARGUMENT, Edges::busy, x -> x.kind(0, LEAST));
    }

    static void promise10_what6IsTheGreatest() {
        same("those that were fed", Edges.busy().kind(3, 6), 2);
        Edges.refused(Edges.ARGUMENT, Edges::busy, x -> x.kind(0, 7));
        Edges.refused(Edges.ARGUMENT, Edges::busy, x -> x.kind(0, MOST));
    }

    static void promise10_newKindHasNoCoins() {
        CoinRails x = Edges.busy();
        x.addKind(1000, 1, 0);
        for (int what = 3; what <= 6; what++) {
            same("coins", x.kind(4, what), 0);
        }
    }

    static void promise10_coinsInAllBagsAndNoLongerWhenTaken() {
        CoinRails x = Edges.gaps(Edges.sorter(1000, 1, 0), 4100, 4100, 4100, 4100, 4100, 4100);
        for (int rail = 0; rail < 6; rail++) {
            x.feed(0, 0);
            x.setGap(rail, 900);
        }
        same("in bags", x.kind(0, 3), 6);
        x.takeBag(0);
        x.takeBag(5);
        same("in bags when two were taken", x.kind(0, 3), 4);
        same("fed", x.kind(0, 6), 6);
    }

    static void promise10_stuckOnesOfAllRails() {
        CoinRails x = Edges.gaps(Edges.sorter(2000, 1, 0), 2001, 2000, 1999, 1998, 1997, 1996);
        Edges.fed(x, 6, 0, 0);
        same("stuck", x.kind(0, 4), 6);
        x.free(0);
        x.free(5);
        same("stuck when two were freed", x.kind(0, 4), 4);
    }

    static void promise10_rejectsNoLongerWhenTaken() {
        CoinRails x = Edges.fed(Edges.sorter(4000, 1, 0), 2, 0, 0);
        same("rejects", x.kind(0, 5), 2);
        x.takeRejects();
        same("rejects when taken", x.kind(0, 5), 0);
        same("fed", x.kind(0, 6), 2);
    }

    // ---- Promise 11: rail

    static void promise11_rail0IsTheLeast() {
        same("allowed", new CoinRails().rail(0, 0), 1500);
        Edges.refused(Edges.INDEX, Edges::busy, x -> x.rail(-1, 0));
        Edges.refused(Edges.INDEX, Edges::busy, x -> x.rail(LEAST, 0));
    }

    static void promise11_rail5IsTheGreatest() {
        same("allowed", new CoinRails().rail(5, 0), 3500);
        Edges.refused(Edges.INDEX, Edges::busy, x -> x.rail(6, 0));
        Edges.refused(Edges.INDEX, Edges::busy, x -> x.rail(MOST, 0));
    }

    static void promise11_what0IsTheLeast() {
        same("its gap", Edges.busy().rail(2, 0), 2300);
        Edges.refused(Edges.ARGUMENT, Edges::busy, x -> x.rail(0, -1));
        Edges.refused(Edges.ARGUMENT, Edges::busy, x -> x.rail(0, LEAST));
    }

    static void promise11_what9IsTheGreatest() {
        same("rolled over it", Edges.busy().rail(0, 9), 4);
        Edges.refused(Edges.ARGUMENT, Edges::busy, x -> x.rail(0, 10));
        Edges.refused(Edges.ARGUMENT, Edges::busy, x -> x.rail(0, MOST));
    }

    static void promise11_stuckKindIsNoneIfItIsNotStuck() {
        same("kind", Edges.busy().rail(0, 3), NONE);
    }

    static void promise11_stuckWearIsNoneIfItIsNotStuck() {
        same("wear", Edges.busy().rail(0, 4), NONE);
    }

    static void promise11_stuckKind0AndWear0AreNotNone() {
        CoinRails x = Edges.fed(Edges.sorter(1498, 1, 0), 1, 0, 0);
        same("kind", x.rail(0, 3), 0);
        same("wear", x.rail(0, 4), 0);
    }

    static void promise11_stuckWearIsTheOneWhenItGotStuck() {
        CoinRails x = Edges.sorter(2007, 1, 0);
        same("stuck in rail 1", x.feed(0, 110), 11);
        same("wear", x.rail(1, 4), 111);
        x.setHome(0, 5);
        x.feed(0, 500);
        same("wear after other calls", x.rail(1, 4), 111);
    }

    static void promise11_stuckCoinIsNotInTheBag() {
        CoinRails x = stuckOver(0);
        same("coins", x.rail(0, 2), 0);
        same("taken to be worth", x.rail(0, 5), 0);
        same("true worth", x.rail(0, 6), 0);
    }

    static void promise11_misfitsFrom0To40() {
        CoinRails x = Edges.fed(Edges.sorter(1400, 1, 0), 40, 0, 0);
        same("none", x.rail(0, 7), 0);
        x.setHome(0, 1);
        same("all", x.rail(0, 7), 40);
    }

    static void promise11_kindIsNoneWithoutOne() {
        CoinRails x = Edges.sorter(1400, 1, 2);
        int[] due = {NONE, NONE, 0, NONE, NONE, NONE};
        for (int rail = 0; rail < 6; rail++) {
            same("kind", x.rail(rail, 8), due[rail]);
        }
    }

    static void promise11_kindIsTheLowestOfSeveral() {
        CoinRails x = Edges.sorter(1400, 1, 2, 1500, 1, 5, 1600, 1, 5);
        same("of two", x.rail(5, 8), 1);
        x.setHome(0, 5);
        same("of three", x.rail(5, 8), 0);
        x.setHome(0, 4);
        x.setHome(1, 4);
        same("the one that is left", x.rail(5, 8), 2);
    }

    static void promise11_rolledOverCountsRailsAheadOnly() {
        CoinRails x = Edges.home(3);
        x.feed(2, 0);
        int[] due = {1, 1, 0, 0, 0, 0};
        for (int rail = 0; rail < 6; rail++) {
            same("falls on 2", x.rail(rail, 9), due[rail]);
        }
    }

    static void promise11_rolledOverAheadOfAStuckRailOnly() {
        CoinRails x = Edges.fed(Edges.sorter(2299, 1, 2), 1, 0, 1);
        int[] due = {1, 1, 0, 0, 0, 0};
        for (int rail = 0; rail < 6; rail++) {
            same("stuck in 2", x.rail(rail, 9), due[rail]);
        }
    }

    static void promise11_rolledOverAllByAReject() {
        CoinRails x = Edges.fed(Edges.sorter(4000, 1, 2), 1, 0, 0);
        for (int rail = 0; rail < 6; rail++) {
            same("reject", x.rail(rail, 9), 1);
        }
    }

    static void promise11_rolledOverSoFarIsNotTaken() {
        CoinRails x = Edges.fed(Edges.sorter(4000, 1, 2), 2, 0, 0);
        x.takeRejects();
        x.takeBag(0);
        same("rolled", x.rail(0, 9), 2);
    }

    // ---- Promise 12: count

    static void promise12_rail0IsTheLeast() {
        same("allowed", Edges.busy().count(0, 0), 4);
        Edges.refused(Edges.INDEX, Edges::busy, x -> x.count(-1, 0));
        Edges.refused(Edges.INDEX, Edges::busy, x -> x.count(LEAST, 0));
    }

    static void promise12_rail5IsTheGreatest() {
        same("allowed", Edges.fed(Edges.sorter(3490, 1, 5), 2, 0, 0).count(5, 0), 2);
        Edges.refused(Edges.INDEX, Edges::busy, x -> x.count(6, 0));
        Edges.refused(Edges.INDEX, Edges::busy, x -> x.count(MOST, 0));
    }

    static void promise12_kindThereIsNone() {
        Edges.refused(Edges.INDEX, CoinRails::new, x -> x.count(0, 0));
    }

    static void promise12_kind0IsTheLeast() {
        Edges.refused(Edges.INDEX, Edges::busy, x -> x.count(1, -1));
        Edges.refused(Edges.INDEX, Edges::busy, x -> x.count(1, LEAST));
    }

    static void promise12_lastKindIsTheGreatest() {
        same("allowed", Edges.busy().count(0, 3), 0);
        Edges.refused(Edges.INDEX, Edges::busy, x -> x.count(0, 4));
        same("allowed of six", Edges.full().count(4, 5), 1);
        Edges.refused(Edges.INDEX, Edges::full, x -> x.count(0, 6));
        Edges.refused(Edges.INDEX, Edges::busy, x -> x.count(0, MOST));
    }

    static void promise12_countFrom0To40() {
        CoinRails x = Edges.sorter(1400, 1, 0, 1300, 1, 0);
        same("none", x.count(0, 0), 0);
        Edges.fed(x, 40, 0, 0);
        same("all", x.count(0, 0), 40);
        same("of the other", x.count(0, 1), 0);
    }

    // ---- Promise 13: value

    static void promise13_what0IsTheLeast() {
        same("the kinds", Edges.busy().value(0), 4);
        Edges.refused(Edges.ARGUMENT, Edges::busy, x -> x.value(-1));
        Edges.refused(Edges.ARGUMENT, Edges::busy, x -> x.value(LEAST));
    }

    static void promise13_what9IsTheGreatest() {
        same("full bags", Edges.fed(Edges.sorter(1400, 1, 0), 40, 0, 0).value(9), 1);
        Edges.refused(Edges.ARGUMENT, Edges::busy, x -> x.value(10));
        Edges.refused(Edges.ARGUMENT, Edges::busy, x -> x.value(MOST));
    }

    static void promise13_fedSoFarAreNotTaken() {
        CoinRails x = Edges.busy();
        same("fed", x.value(1), 11);
        x.takeBag(0);
        x.takeRejects();
        same("fed when taken", x.value(1), 11);
    }

    static void promise13_takenInBagsOrAsRejects() {
        CoinRails x = Edges.busy();
        same("taken", x.value(5), 4);
        x.takeBag(0);
        same("with a bag", x.value(5), 8);
        x.takeRejects();
        same("with rejects", x.value(5), 9);
        x.takeBag(0);
        x.takeRejects();
        same("with nothing", x.value(5), 9);
    }

    static void promise13_rejectsThatWereNotTaken() {
        CoinRails x = Edges.busy();
        same("rejects", x.value(4), 1);
        x.takeRejects();
        same("rejects when taken", x.value(4), 0);
    }

    static void promise13_bagWith39IsNotFull() {
        CoinRails x = Edges.fed(Edges.sorter(1400, 1, 0), 39, 0, 0);
        same("39", x.value(9), 0);
        x.feed(0, 0);
        same("40", x.value(9), 1);
        x.takeBag(0);
        same("taken", x.value(9), 0);
    }

    static void promise13_sumsCountTheFirstAndTheLastRail() {
        CoinRails x = Edges.sorter(1490, 3, 0, 3490, 5, 5);
        x.feed(0, 0);
        x.feed(1, 0);
        same("coins in bags", x.value(2), 2);
        same("taken to be worth", x.value(7), 8);
        same("true worth", x.value(8), 8);
        x.setHome(0, 5);
        x.setHome(1, 0);
        same("misfits", x.value(6), 2);
        same("taken to be worth now", x.value(7), 8);
        x.setHome(1, 5);
        same("taken to be worth without a kind of rail 0", x.value(7), 3);
    }
}
