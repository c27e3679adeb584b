/** Boundary cases of the promises 23 and 24. */
public final class EdgesOfStateTest {
    public static void main(String[] args) {
        Edges.run(EdgesOfStateTest.class);
    }

    private static void same(String what, long got, long due) {
        Edges.same(what, got, due);
    }

    // ---- Promise 23: undo

    static void promise23_nothingSavedYet() {
        Edges.refused(Edges.STATE, CoinRails::new, x -> x.undo());
        Edges.refused(Edges.STATE, () -> Edges.written(new CoinRails(), "0;"), x -> x.undo());
    }

    static void promise23_nothingSavedAnyLonger() {
        Edges.refused(Edges.STATE, () -> {
            CoinRails x = Edges.home(1);
            x.undo();
            return x;
        }, x -> x.undo());
    }

    static void promise23_fifthUndoIsRefused() {
        Edges.refused(Edges.STATE, () -> {
            CoinRails x = Edges.full();
            for (int i = 0; i < 4; i++) {
                x.undo();
            }
            return x;
        }, x -> x.undo());
    }

    static void promise23_answersTheStatesThatRemain() {
        CoinRails x = Edges.full();
        for (int left = 3; left >= 0; left--) {
            same("left", x.undo(), left);
        }
    }

    static void promise23_onlySavedStateLeaves0() {
        same("left", Edges.home(1).undo(), 0);
    }

    static void promise23_restoresTheStateOfANewOne() {
        CoinRails x = Edges.home(1);
        x.setGap(0, 900);
        x.undo();
        x.undo();
        Edges.alike("as new", x, new CoinRails());
    }

    static void promise23_restoresTheMostRecentState() {
        CoinRails x = Edges.fed(Edges.sorter(1400, 1, 0), 3, 0, 0);
        x.undo();
        same("coins", x.value(1), 2);
        x.undo();
        same("coins", x.value(1), 1);
    }

    static void promise23_stateIsRemovedByIt() {
        CoinRails x = Edges.fed(Edges.sorter(1400, 1, 0), 2, 0, 0);
        x.undo();
        x.feed(0, 999);
        same("undo of the new coin", x.undo(), 2);
        same("undo of the first coin", x.undo(), 1);
        same("coins", x.value(1), 0);
    }

    static void promise23_restoresAllThatTheRailsAndBagsHold() {
        CoinRails x = Edges.busy();
        x.feedSome(200, 77);
        same("left", x.undo(), 2);
        Edges.alike("as before", x, Edges.busy());
    }

    static void promise23_restoresTheHomeOfTheSixthKind() {
        Edges.undoable(EdgesOfStateTest::lastOnes, x -> x.setHome(5, 0));
    }

    static void promise23_restoresTheRejectsOfTheSixthKind() {
        Edges.undoable(EdgesOfStateTest::lastOnes, x -> x.takeRejects());
    }

    static void promise23_restoresTheBagOfTheLastRail() {
        Edges.undoable(EdgesOfStateTest::lastOnes, x -> x.takeBag(5));
    }

    static void promise23_restoresTheUseAndTheGapOfTheLastRail() {
        Edges.undoable(() -> Edges.fed(Edges.sorter(3490, 1, 5), 2, 0, 0), x -> x.feed(0, 0));
        Edges.undoable(() -> Edges.fed(Edges.sorter(3490, 1, 5), 2, 0, 0), x -> x.setGap(5, 900));
    }

    static void promise23_restoresTheStuckCoinOfTheLastRail() {
        Edges.undoable(EdgesOfStateTest::lastOnes, x -> x.free(5));
    }

    /** The last rail has a coin in its bag and is stuck by the sixth kind, of which one is a reject; two are saved. */
    private static CoinRails lastOnes() {
        CoinRails x = Edges.home(6);
        x.feed(5, 0);
        x.setGap(5, 3486);
        Edges.fed(x, 4, 5, 0);
        x.undo();
        x.undo();
        return x;
    }

    static void promise23_restoredStateIsNotChangedByWhatComes() {
        CoinRails x = Edges.fed(Edges.sorter(1400, 1, 0), 1, 0, 0);
        x.setGap(0, 1600);
        x.undo();
        Edges.fed(x, 3, 0, 0);
        x.undo();
        x.undo();
        x.undo();
        Edges.alike("as before", x, Edges.fed(Edges.sorter(1400, 1, 0), 1, 0, 0));
    }

    static void promise23_textStays() {
        CoinRails x = Edges.written(Edges.home(1), "0;0;");
        x.parse();
        x.undo();
        same("coins", x.parse(), 2);
        same("length", x.clearText(), 4);
    }

    static void promise23_parseWithAnErrorIsNotUndone() {
        CoinRails x = Edges.written(Edges.fed(Edges.home(1), 1, 0, 0), "0");
        x.parse();
        same("left", x.undo(), 1);
        same("the coin is gone", x.value(1), 0);
    }

    // ---- Promise 24: digest

    static void promise24_newOne() {
        same("digest", new CoinRails().digest(), 2813509710340396059L);
    }

    static void promise24_withoutKinds() {
        CoinRails x = Edges.gaps(new CoinRails(), 900, 4100);
        same("digest", x.digest(), hashOf(x, 0, 2));
    }

    static void promise24_sixKinds() {
        CoinRails x = Edges.home(6);
        x.feedSome(200, 999999);
        same("digest", x.digest(), hashOf(x, 0, 4));
    }

    static void promise24_countsEachByteOfTheText() {
        CoinRails x = Edges.busy();
        x.clearText();
        for (int length = 1; length <= 90; length++) {
            x.append('0');
            same("digest", x.digest(), hashOf(x, length, 2));
        }
    }

    static void promise24_bytesOfTheTextDoNotCount() {
        same("digest", Edges.written(Edges.busy(), "abcd").digest(), Edges.written(Edges.busy(), "0;0;").digest());
    }

    static void promise24_countsTheSavedStates() {
        CoinRails x = Edges.full();
        for (int left = 4; left >= 1; left--) {
            same("digest", x.digest(), hashOf(x, 90, left));
            x.undo();
        }
        same("digest of none", x.digest(), hashOf(x, 90, 0));
    }

    static void promise24_savedStatesStopAt4() {
        CoinRails x = Edges.full();
        x.setHome(0, 0);
        same("digest", x.digest(), Edges.full().digest());
    }

    static void promise24_negativeValuesCount() {
        // Rails that are not stuck, and kinds with no most wear, count with -1.
        CoinRails x = Edges.sorter(4000, 1, 0);
        same("most wear", x.mostWear(0), -1);
        same("digest", x.digest(), hashOf(x, 0, 1));
    }

    static void promise24_changesNothing() {
        Edges.harmless(Edges::busy, x -> x.digest());
        Edges.harmless(Edges::full, x -> x.digest());
    }

    private static long hashOf(CoinRails x, int length, int states) {
        long h = 31L * 3593 + length;
        for (int what = 0; what <= 9; what++) {
            h = 31 * h + x.value(what);
        }
        for (int kind = 0; kind < x.value(0); kind++) {
            for (int what = 0; what <= 6; what++) {
                h = 31 * h + x.kind(kind, what);
            }
            h = 31 * h + x.mostWear(kind);
        }
        for (int rail = 0; rail < 6; rail++) {
            for (int what = 0; what <= 9; what++) {
                h = 31 * h + x.rail(rail, what);
            }
            for (int kind = 0; kind < x.value(0); kind++) {
                h = 31 * h + x.count(rail, kind);
            }
        }
        return 31 * h + states;
    }
}
