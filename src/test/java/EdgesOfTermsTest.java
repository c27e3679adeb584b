/** Boundary cases of "What it is" and of "Terms": a test for each sentence that names one. */
public final class EdgesOfTermsTest {
    private static final int NONE = Edges.NONE;

    public static void main(String[] args) {
        Edges.run(EdgesOfTermsTest.class);
    }

    private static void same(String what, long got, long due) {
        Edges.same(what, got, due);
    }

    // ---- What it is

    static void whatItIs_divisionIsRoundedDown() {
        // s becomes 2043674520, which is 31183.99 times 65536 and 1948.998 times 1048576.
        CoinRails x = Edges.sorter(4000, 1, 0, 4000, 1, 0);
        x.feedSome(1, 1403);
        same("kind, 31183 modulo 2", x.kind(1, 6), 1);
        CoinRails y = Edges.gaps(Edges.sorter(1028, 1, 0), 1001);
        y.feedSome(1, 1403);
        same("wear, 1948 modulo 40", y.rail(0, 4), 28);
    }

    static void whatItIs_theLastOf512CallsAnswersRight() {
        CoinRails x = Edges.sorter(4000, 1, 0);
        CoinRails y = Edges.sorter(4000, 1, 0);
        for (int call = 2; call < 512; call++) {
            same("rejects", x.feedSome(200, call), 200);
            y.feedSome(200, call);
        }
        same("rejects of 510 calls", x.takeRejects(), 102000);
        same("rolled over in 510 calls", y.rail(5, 9), 102000);
    }

    static void whatItIs_theLastOf512SmallCallsAnswersRight() {
        CoinRails x = new CoinRails();
        for (int call = 1; call < 510; call++) {
            same("none are taken", x.takeBag(call % 6), 0);
        }
        same("kind", x.addKind(1400, 7, 0), 0);
        same("falls", x.feed(0, 0), 0);
        same("undo", x.undo(), 3);
    }

    static void termsConstants_noneIsMinus1() throws ReflectiveOperationException {
        // The value is asked of the class, as a compiler would put it in here.
        same("NONE", CoinRails.class.getField("NONE").getInt(null), -1);
    }

    // ---- Terms: kinds

    static void termsKinds_areAtMost6() {
        CoinRails x = Edges.home(6);
        same("kinds", x.value(0), 6);
        Edges.refused(Edges.STATE, () -> Edges.home(6), y -> y.addKind(2000, 1, 0));
    }

    static void termsKinds_areNumberedFrom0() {
        CoinRails x = new CoinRails();
        for (int kind = 0; kind < 6; kind++) {
            same("number", x.addKind(1000 + kind, 1, 0), kind);
            same("its diameter", x.kind(kind, 0), 1000 + kind);
        }
    }

    // ---- Terms: rails

    static void termsRails_comeInTheOrderOfTheirNumbers() {
        CoinRails x = Edges.gaps(Edges.sorter(1000, 1, 0), 4100, 4100, 4100, 4100, 4100, 4100);
        for (int rail = 0; rail < 6; rail++) {
            same("the first rail that is wide enough", x.feed(0, 0), rail);
            x.setGap(rail, 900);
        }
        same("no rail is wide enough", x.feed(0, 0), NONE);
    }

    static void termsRails_haveGapsInEqualStepsAtFirst() {
        int[] due = {1500, 1900, 2300, 2700, 3100, 3500};
        CoinRails x = new CoinRails();
        for (int rail = 0; rail < 6; rail++) {
            same("gap", x.rail(rail, 0), due[rail]);
        }
    }

    static void termsRails_haveAUseOf0AtFirst() {
        CoinRails x = new CoinRails();
        for (int rail = 0; rail < 6; rail++) {
            same("use", x.rail(rail, 1), 0);
        }
    }

    static void termsRails_useIsAtMost19AndStartsAgainFrom0() {
        CoinRails x = Edges.sorter(1400, 1, 0);
        for (int coins = 1; coins <= 81; coins++) {
            x.feed(0, 0);
            same("use after " + coins, x.rail(0, 1), coins % 20);
            if (x.rail(0, 2) == 40) {
                x.takeBag(0);
            }
        }
    }

    static void termsRails_gapGrowsBy1WhenTheUseWouldBe20() {
        CoinRails x = Edges.sorter(1400, 1, 0);
        Edges.fed(x, 19, 0, 0);
        same("gap after 19", x.rail(0, 0), 1500);
        x.feed(0, 0);
        same("gap after 20", x.rail(0, 0), 1501);
        same("gap of the next rail", x.rail(1, 0), 1900);
        Edges.fed(x, 19, 0, 0);
        same("gap after 39", x.rail(0, 0), 1501);
        x.feed(0, 0);
        same("gap after 40", x.rail(0, 0), 1502);
    }

    static void termsRails_gapGrowsTo4100() {
        CoinRails x = Edges.gaps(Edges.sorter(1400, 1, 0), 4099);
        Edges.fed(x, 20, 0, 0);
        same("gap", x.rail(0, 0), 4100);
    }

    static void termsRails_gapStopsAt4100AndTheUseStillStartsAgain() {
        CoinRails x = Edges.gaps(Edges.sorter(1400, 1, 0), 4100);
        Edges.fed(x, 19, 0, 0);
        same("use of 19", x.rail(0, 1), 19);
        x.feed(0, 0);
        same("gap", x.rail(0, 0), 4100);
        same("use", x.rail(0, 1), 0);
    }

    static void termsRails_gapThatGrewHoldsForTheNextCoin() {
        CoinRails x = Edges.sorter(1400, 1, 0, 1500, 1, 5, 1496, 1, 5);
        Edges.fed(x, 19, 0, 0);
        same("just too big", x.where(1, 0), 1);
        same("just stuck", x.where(2, 0), 10);
        x.feed(0, 0);
        same("stuck by now", x.where(1, 0), 10);
        same("falls by now", x.feed(2, 0), 0);
    }

    static void termsRails_bagHasRoomFor40() {
        CoinRails x = Edges.sorter(1400, 1, 0, 1300, 1, 0);
        Edges.fed(x, 20, 0, 0);
        Edges.fed(x, 19, 1, 0);
        same("full bags with 39", x.value(9), 0);
        same("the 40th", x.feed(1, 0), 0);
        same("full bags with 40", x.value(9), 1);
        same("the 41st", x.feed(0, 0), 1);
        same("coins in the full bag", x.rail(0, 2), 40);
    }

    static void termsRails_isStuckByOneCoinOnly() {
        CoinRails x = Edges.sorter(1498, 1, 0, 1497, 1, 0);
        same("the first gets stuck", x.feed(0, 0), 10);
        same("the second rolls on", x.feed(1, 0), 1);
        same("stuck by the first", x.rail(0, 3), 0);
        same("stuck coins", x.value(3), 1);
    }

    static void termsRails_mayAllBeStuck() {
        CoinRails x = Edges.gaps(Edges.sorter(2000, 1, 0), 2001, 2000, 1999, 1998, 1997, 1996);
        for (int rail = 0; rail < 6; rail++) {
            same("gets stuck", x.feed(0, 0), 10 + rail);
        }
        same("no rail is left", x.feed(0, 0), NONE);
        same("stuck coins", x.value(3), 6);
    }

    // ---- Terms: coins

    static void termsCoins_gapAsGreatAsTheSizeIsRolledOver() {
        same("gap - size = 0", Edges.gaps(Edges.sorter(2000, 1, 0), 2000).feed(0, 0), 2);
    }

    static void termsCoins_gapSmallerBy1IsRolledOver() {
        same("gap - size = -1", Edges.gaps(Edges.sorter(2000, 1, 0), 1999).feed(0, 0), 2);
    }

    static void termsCoins_gapGreaterBy1HoldsTheCoin() {
        same("gap - size = 1", Edges.gaps(Edges.sorter(2000, 1, 0), 2001).feed(0, 0), 10);
    }

    static void termsCoins_gapGreaterBy4HoldsTheCoin() {
        same("gap - size = 4", Edges.gaps(Edges.sorter(2000, 1, 0), 2004).feed(0, 0), 10);
    }

    static void termsCoins_gapGreaterBy5LetsTheCoinFall() {
        same("gap - size = 5", Edges.gaps(Edges.sorter(2000, 1, 0), 2005).feed(0, 0), 0);
    }

    static void termsCoins_sizeIsTheDiameterMinusTheWear() {
        CoinRails x = Edges.gaps(Edges.sorter(2000, 1, 0), 1505);
        same("size 1501", x.where(0, 499), 10);
        same("size 1500", x.where(0, 500), 0);
    }

    static void termsCoins_leastSizeIs1() {
        // A diameter is 1000 and a wear 999, so no coin can be smaller than 1 in any case.
        CoinRails x = Edges.gaps(Edges.sorter(1000, 1, 0), 900);
        same("size 1", x.where(0, 999), 0);
        same("size 895", x.where(0, 105), 0);
        same("size 896", x.where(0, 104), 10);
    }

    static void termsCoins_stuckRailIsRolledOver() {
        CoinRails x = Edges.sorter(1498, 1, 0, 1400, 1, 0);
        x.feed(0, 0);
        same("rolls over the stuck rail", x.feed(1, 0), 1);
        same("rolled", x.rail(0, 9), 1);
    }

    static void termsCoins_fullBagIsRolledOver() {
        CoinRails x = Edges.fed(Edges.sorter(1400, 1, 0), 40, 0, 0);
        same("rolls over the full one", x.feed(0, 0), 1);
        same("rolled", x.rail(0, 9), 1);
    }

    static void termsCoins_fullBagIsRolledOverByWhatWouldGetStuck() {
        CoinRails x = Edges.fed(Edges.sorter(1400, 1, 0, 1500, 1, 0), 40, 0, 0);
        same("gap", x.rail(0, 0), 1502);
        same("rolls over the full one", x.feed(1, 0), 1);
        same("not stuck", x.value(3), 0);
        x.takeBag(0);
        same("gets stuck when there is room", x.feed(1, 0), 10);
    }

    static void termsCoins_wearIncreasesBy1OverANarrowRail() {
        CoinRails x = Edges.gaps(Edges.sorter(2000, 1, 0), 2000, 2000);
        same("stuck by the wear of rail 0", x.feed(0, 0), 11);
        same("wear", x.rail(1, 4), 1);
    }

    static void termsCoins_wearIncreasesBy1OverAStuckRail() {
        CoinRails x = Edges.gaps(Edges.sorter(2000, 1, 0), 2001, 2000);
        same("stuck", x.feed(0, 0), 10);
        same("stuck by the wear of rail 0", x.feed(0, 0), 11);
        same("wear", x.rail(1, 4), 1);
    }

    static void termsCoins_wearIncreasesBy1OverAFullBag() {
        CoinRails x = Edges.fed(Edges.gaps(Edges.sorter(2000, 1, 0), 3000, 2000), 40, 0, 0);
        same("stuck by the wear of rail 0", x.feed(0, 0), 11);
        same("wear", x.rail(1, 4), 1);
    }

    static void termsCoins_wearIncreasesBy1OnlyForSeveralReasonsAtOnce() {
        // Rail 0 is stuck and too narrow, or full and too narrow.
        CoinRails x = Edges.gaps(Edges.sorter(2000, 1, 0, 3000, 1, 0), 2001, 900, 3002);
        same("stuck", x.feed(0, 0), 10);
        same("stuck behind it", x.feed(1, 0), 12);
        same("wear", x.rail(2, 4), 2);
        CoinRails y = Edges.gaps(Edges.sorter(2000, 1, 0, 3000, 1, 0), 2100, 900, 3002);
        Edges.fed(y, 40, 0, 0);
        same("stuck behind the full one", y.feed(1, 0), 12);
        same("wear", y.rail(2, 4), 2);
    }

    static void termsCoins_wearDoesNotGrowOnItsOwnRail() {
        CoinRails x = Edges.gaps(Edges.sorter(2000, 1, 0), 2001);
        x.feed(0, 0);
        same("wear on rail 0", x.rail(0, 4), 0);
    }

    static void termsCoins_wearOf998Grows() {
        CoinRails x = Edges.gaps(Edges.sorter(2000, 1, 0), 900, 1002);
        same("stuck at a size of 1001", x.feed(0, 998), 11);
        same("wear", x.rail(1, 4), 999);
    }

    static void termsCoins_wearStopsAt999() {
        CoinRails x = Edges.gaps(Edges.sorter(2000, 1, 0), 900, 1002);
        same("stuck at a size of 1001", x.feed(0, 999), 11);
        same("wear", x.rail(1, 4), 999);
        CoinRails y = Edges.gaps(Edges.sorter(2000, 1, 0), 900, 900, 900, 900, 900, 1002);
        same("stuck after five rails", y.feed(0, 997), 15);
        same("wear after five rails", y.rail(5, 4), 999);
    }

    static void termsCoins_wearStopsAt999SoThatTheSizeDoes() {
        CoinRails x = Edges.gaps(Edges.sorter(2000, 1, 0), 900, 1001, 1001, 1001, 1001, 1001);
        same("a size of 1001 rolls over all", x.feed(0, 999), NONE);
        x.setGap(5, 1005);
        same("a size of 1001 gets stuck", x.feed(0, 999), 15);
        x.free(5);
        x.setGap(5, 1006);
        same("a size of 1001 falls", x.feed(0, 999), 5);
    }

    static void termsCoins_stuckCoinChangesNoUse() {
        CoinRails x = Edges.fed(Edges.sorter(1400, 1, 0, 1498, 1, 0), 19, 0, 0);
        same("stuck", x.feed(1, 0), 10);
        same("use", x.rail(0, 1), 19);
        same("gap", x.rail(0, 0), 1500);
        same("bag", x.rail(0, 2), 19);
    }

    static void termsCoins_rollingChangesNoUse() {
        CoinRails x = Edges.fed(Edges.sorter(1400, 1, 0, 4000, 1, 0), 19, 0, 0);
        same("reject", x.feed(1, 0), NONE);
        same("use", x.rail(0, 1), 19);
        same("use of the last", x.rail(5, 1), 0);
    }

    static void termsCoins_rejectBecauseTheLastRailIsTooNarrow() {
        CoinRails x = Edges.sorter(3505, 1, 5);
        same("gap 3500, size 3500", x.feed(0, 0), NONE);
        same("rejects", x.value(4), 1);
        same("rolled over the last", x.rail(5, 9), 1);
        same("gap 3500, size 3499", x.feed(0, 1), 15);
    }

    static void termsCoins_rejectBecauseTheLastRailIsStuck() {
        CoinRails x = Edges.sorter(3504, 1, 5, 3400, 1, 5);
        same("stuck", x.feed(0, 0), 15);
        same("reject", x.feed(1, 0), NONE);
        same("rejects", x.value(4), 1);
        same("rolled over the last", x.rail(5, 9), 1);
    }

    static void termsCoins_rejectBecauseTheLastBagIsFull() {
        CoinRails x = Edges.fed(Edges.sorter(3400, 1, 5), 40, 0, 0);
        same("none so far", x.value(4), 0);
        same("reject", x.feed(0, 0), NONE);
        same("rejects", x.value(4), 1);
    }

    // ---- Terms: bags

    static void termsBags_emptyBagIsWorthNothing() {
        CoinRails x = Edges.home(6);
        for (int rail = 0; rail < 6; rail++) {
            same("taken to be worth", x.rail(rail, 5), 0);
            same("true worth", x.rail(rail, 6), 0);
        }
    }

    static void termsBags_ofSeveralKindsTheLowestIsReckonedBy() {
        CoinRails x = Edges.sorter(1400, 7, 4, 1450, 3, 0, 1440, 500, 0);
        Edges.fed(x, 2, 2, 0);
        same("worth by kind 1", x.rail(0, 5), 6);
        x.setHome(0, 0);
        same("worth by kind 0", x.rail(0, 5), 14);
        same("true worth", x.rail(0, 6), 1000);
    }

    static void termsBags_withoutAKindABagIsTakenToBeWorth0() {
        CoinRails x = Edges.sorter(1400, 7, 4);
        x.feed(0, 0);
        same("taken to be worth", x.rail(0, 5), 0);
        same("true worth", x.rail(0, 6), 7);
        same("all", x.value(7), 0);
    }

    static void termsBags_greatestWorth() {
        CoinRails x = new CoinRails();
        for (int kind = 0; kind < 6; kind++) {
            x.addKind(1490 + 400 * kind, 500, kind);
            Edges.fed(x, 40, kind, 0);
            same("taken to be worth", x.rail(kind, 5), 20000);
            same("true worth", x.rail(kind, 6), 20000);
        }
        same("full bags", x.value(9), 6);
        same("all are taken to be worth", x.value(7), 120000);
        same("true worth of all", x.value(8), 120000);
        same("coins in bags", x.value(2), 240);
    }

    static void termsBags_misfitIsReckonedByTheRailSetNow() {
        CoinRails x = Edges.sorter(1400, 7, 0);
        x.feed(0, 0);
        same("no misfit", x.rail(0, 7), 0);
        x.setHome(0, 5);
        same("misfit", x.rail(0, 7), 1);
        x.setHome(0, 0);
        same("no misfit again", x.rail(0, 7), 0);
    }

    static void termsBags_stuckCoinIsNoMisfit() {
        CoinRails x = Edges.sorter(1498, 7, 5);
        x.feed(0, 0);
        same("misfits", x.value(6), 0);
        x.free(0);
        same("misfits when freed", x.value(6), 1);
    }

    static void termsBags_eachCoinIsInOnePlace() {
        CoinRails x = Edges.busy();
        for (int i = 0; i < 60; i++) {
            x.feedSome(i, 16000 * i);
            if (i % 5 == 0) {
                x.takeBag(i / 5 % 6);
            }
            if (i % 7 == 0) {
                x.takeRejects();
            }
            if (x.rail(i % 6, 3) != NONE) {
                x.free(i % 6);
            }
            same("coins", x.value(2) + x.value(3) + x.value(4) + x.value(5), x.value(1));
            same("kinds", x.kind(0, 6) + x.kind(1, 6) + x.kind(2, 6) + x.kind(3, 6), x.value(1));
        }
    }

    // ---- Terms: chance

    static void termsChance_sIsChangedAheadOfTheFirstCoin() {
        // From s = 1 itself kind 0 with a wear of 0 would come; s becomes 1103527590.
        CoinRails x = Edges.home(3);
        x.feedSome(1, 1);
        same("kind, 16838 modulo 3", x.kind(2, 6), 1);
        CoinRails y = Edges.gaps(Edges.sorter(1012, 1, 0), 1001);
        y.feedSome(1, 1);
        same("wear, 1052 modulo 40", y.rail(0, 4), 12);
    }

    static void termsChance_kindIsModuloTheNumberOfKinds() {
        int[] seeds = {0, 1, 2, 77, 1403, 4544, 65535, 65536, 500000, 999998, 999999};
        for (int kinds = 1; kinds <= 6; kinds++) {
            CoinRails x = Edges.home(kinds);
            for (int s : seeds) {
                int kind = (int) (Edges.chance(s) / 65536 % kinds);
                int before = x.kind(kind, 6);
                x.feedSome(1, s);
                same("kind of " + kinds + " after s = " + s, x.kind(kind, 6), before + 1);
            }
        }
    }

    static void termsChance_wearIs0To39AndStartsAgainFrom0() {
        // s / 1048576 becomes 0, 39, 40, 79, 2000, 2047, 2047, and 1342 with 3 left over.
        int[] seeds = {0, 903, 2598, 111, 936, 4544, 6239, 354482};
        int[] wears = {0, 39, 0, 39, 0, 7, 7, 22};
        for (int i = 0; i < seeds.length; i++) {
            CoinRails x = Edges.gaps(Edges.sorter(1000 + wears[i], 1, 0), 1001);
            same("no reject", x.feedSome(1, seeds[i]), 0);
            same("stuck by", x.rail(0, 3), 0);
            same("wear after s = " + seeds[i], x.rail(0, 4), wears[i]);
        }
    }

    static void termsChance_sGoesOnFromCoinToCoin() {
        CoinRails x = Edges.home(6);
        CoinRails y = Edges.home(6);
        long s = 999999;
        int rejects = 0;
        for (int coin = 0; coin < 200; coin++) {
            s = Edges.chance(s);
            rejects += y.feed((int) (s / 65536 % 6), (int) (s / 1048576 % 40)) == NONE ? 1 : 0;
        }
        same("rejects", x.feedSome(200, 999999), rejects);
        Edges.alike("after 200 coins", x, y);
    }

    static void termsChance_sBeginsAnewWithEachCall() {
        CoinRails x = Edges.home(3);
        CoinRails y = Edges.home(3);
        x.feedSome(1, 1);
        x.feedSome(1, 1);
        y.feed(2, 12);
        y.feed(2, 12);
        Edges.alike("after two calls", x, y);
    }

    // ---- Terms: undo

    static void termsUndo_atMost4StatesAreSaved() {
        CoinRails x = Edges.fed(Edges.sorter(1400, 1, 0), 3, 0, 0);
        same("the first of four", x.undo(), 3);
        same("the last of four", x.undo() + x.undo() + x.undo(), 3);
        Edges.refused(Edges.STATE, () -> {
            CoinRails y = Edges.fed(Edges.sorter(1400, 1, 0), 4, 0, 0);
            same("undos", y.undo() + y.undo() + y.undo() + y.undo(), 6);
            return y;
        }, y -> y.undo());
    }

    static void termsUndo_oldestIsDroppedFirst() {
        CoinRails x = Edges.fed(Edges.sorter(1400, 1, 0), 9, 0, 0);
        for (int coins = 8; coins >= 5; coins--) {
            same("left", x.undo(), coins - 5);
            same("coins", x.value(1), coins);
        }
    }

    static void termsUndo_savedStatesGoRoundAgain() {
        CoinRails x = Edges.fed(Edges.sorter(1400, 1, 0), 6, 0, 0);
        for (int round = 0; round < 7; round++) {
            x.undo();
            x.undo();
            Edges.fed(x, 3, 0, 0);
        }
        for (int left = 3; left >= 0; left--) {
            same("left", x.undo(), left);
            same("coins", x.value(1), 9 + left);
        }
    }

    static void termsUndo_textIsNotSaved() {
        CoinRails x = Edges.written(Edges.sorter(1400, 1, 0), "0;");
        x.feed(0, 0);
        x.append('0');
        x.append(';');
        x.undo();
        same("coins of the text", x.parse(), 2);
        same("length", x.clearText(), 4);
        x.undo();
        same("length when the text was emptied", x.clearText(), 0);
    }

    static void termsUndo_homeThatIsTheSameIsSaved() {
        Edges.savedThough(Edges::busy, x -> x.setHome(0, 0));
    }

    static void termsUndo_gapThatIsTheSameIsSaved() {
        Edges.savedThough(Edges::busy, x -> x.setGap(5, 3500));
    }

    static void termsUndo_noCoinsAreSaved() {
        Edges.savedThough(Edges::busy, x -> x.feedSome(0, 5));
    }

    static void termsUndo_emptyBagTakenIsSaved() {
        Edges.savedThough(Edges::busy, x -> x.takeBag(4));
    }

    static void termsUndo_noRejectsTakenAreSaved() {
        Edges.savedThough(() -> Edges.fed(Edges.sorter(1400, 1, 0), 1, 0, 0), x -> x.takeRejects());
    }

    static void termsUndo_emptyTextParsedIsSaved() {
        Edges.savedThough(() -> Edges.written(Edges.busy(), ""), x -> x.parse());
    }

    static void termsUndo_questionsSaveNothing() {
        Edges.harmless(Edges::busy, EdgesOfTermsTest::askAll);
        Edges.harmless(Edges::full, EdgesOfTermsTest::askAll);
    }

    private static void askAll(CoinRails x) {
        x.kind(0, 0);
        x.rail(0, 0);
        x.count(0, 0);
        x.value(0);
        x.where(0, 0);
        x.mostWear(0);
        x.bestGap(0);
        x.supply(0);
        x.worstKind();
        x.right();
        x.digest();
    }

    static void termsUndo_textCallsSaveNothing() {
        CoinRails x = Edges.fed(Edges.sorter(1400, 1, 0), 1, 0, 0);
        x.append('0');
        x.parse();
        x.clearText();
        same("undo", x.undo(), 1);
        same("the coin is taken back", x.value(1), 0);
    }

    static void termsUndo_refusedCallsSaveNothing() {
        Edges.refused(Edges.ARGUMENT, () -> Edges.fed(Edges.sorter(1400, 1, 0), 1, 0, 0), x -> x.feed(0, 1000));
        Edges.refused(Edges.ARGUMENT, () -> Edges.fed(Edges.sorter(1400, 1, 0), 3, 0, 0), x -> x.feed(0, 1000));
    }

    static void termsUndo_undoIsNotSavedItself() {
        CoinRails x = Edges.fed(Edges.sorter(1400, 1, 0), 2, 0, 0);
        same("undo", x.undo(), 2);
        same("undo again", x.undo(), 1);
        same("coins", x.value(1), 0);
    }

    // ---- Terms: exceptions, the one that is listed first

    static void termsExceptions_addKindArgumentAheadOfState() {
        Edges.refused(Edges.ARGUMENT, () -> Edges.home(6), x -> x.addKind(999, 1, 0));
        Edges.refused(Edges.ARGUMENT, () -> Edges.home(6), x -> x.addKind(1000, 0, 0));
        Edges.refused(Edges.ARGUMENT, () -> Edges.home(6), x -> x.addKind(1000, 1, 6));
    }

    static void termsExceptions_setHomeIndexAheadOfArgument() {
        Edges.refused(Edges.INDEX, Edges::busy, x -> x.setHome(4, 6));
        Edges.refused(Edges.INDEX, Edges::busy, x -> x.setHome(-1, -1));
    }

    static void termsExceptions_setGapIndexAheadOfArgument() {
        Edges.refused(Edges.INDEX, Edges::busy, x -> x.setGap(6, 899));
        Edges.refused(Edges.INDEX, Edges::busy, x -> x.setGap(-1, 4101));
    }

    static void termsExceptions_setGapArgumentAheadOfState() {
        Edges.refused(Edges.ARGUMENT, Edges::busy, x -> x.setGap(1, 899));
        Edges.refused(Edges.ARGUMENT, Edges::busy, x -> x.setGap(1, 4101));
    }

    static void termsExceptions_feedIndexAheadOfArgument() {
        Edges.refused(Edges.INDEX, Edges::busy, x -> x.feed(4, 1000));
        Edges.refused(Edges.INDEX, Edges::busy, x -> x.feed(-1, -1));
    }

    static void termsExceptions_feedSomeArgumentAheadOfState() {
        Edges.refused(Edges.ARGUMENT, CoinRails::new, x -> x.feedSome(201, 0));
        Edges.refused(Edges.ARGUMENT, CoinRails::new, x -> x.feedSome(0, 1000000));
    }

    static void termsExceptions_kindIndexAheadOfArgument() {
        Edges.refused(Edges.INDEX, Edges::busy, x -> x.kind(4, 7));
        Edges.refused(Edges.INDEX, Edges::busy, x -> x.kind(-1, -1));
    }

    static void termsExceptions_railIndexAheadOfArgument() {
        Edges.refused(Edges.INDEX, Edges::busy, x -> x.rail(6, 10));
        Edges.refused(Edges.INDEX, Edges::busy, x -> x.rail(-1, -1));
    }

    static void termsExceptions_whereIndexAheadOfArgument() {
        Edges.refused(Edges.INDEX, Edges::busy, x -> x.where(4, 1000));
        Edges.refused(Edges.INDEX, Edges::busy, x -> x.where(-1, -1));
    }

    static void termsExceptions_appendArgumentAheadOfState() {
        Edges.refused(Edges.ARGUMENT, Edges::full, x -> x.append(128));
        Edges.refused(Edges.ARGUMENT, Edges::full, x -> x.append(-1));
    }
}
