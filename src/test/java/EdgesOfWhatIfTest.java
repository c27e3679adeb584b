/** Boundary cases of the promises 14 to 19: a test for each sentence that names one. */
public final class EdgesOfWhatIfTest {
    private static final int NONE = Edges.NONE;
    private static final int LEAST = Integer.MIN_VALUE;
    private static final int MOST = Integer.MAX_VALUE;

    public static void main(String[] args) {
        Edges.run(EdgesOfWhatIfTest.class);
    }

    private static void same(String what, long got, long due) {
        Edges.same(what, got, due);
    }

    // ---- Promise 14: where

    static void promise14_kindThereIsNone() {
        Edges.refused(Edges.INDEX, CoinRails::new, x -> x.where(0, 0));
    }

    static void promise14_kind0IsTheLeast() {
        same("allowed", Edges.busy().where(0, 0), 0);
        Edges.refused(Edges.INDEX, Edges::busy, x -> x.where(-1, 0));
        Edges.refused(Edges.INDEX, Edges::busy, x -> x.where(LEAST, 0));
    }

    static void promise14_lastKindIsTheGreatest() {
        same("allowed", Edges.busy().where(3, 0), NONE);
        Edges.refused(Edges.INDEX, Edges::busy, x -> x.where(4, 0));
        same("allowed of six", Edges.full().where(5, 0), 4);
        Edges.refused(Edges.INDEX, Edges::full, x -> x.where(6, 0));
        Edges.refused(Edges.INDEX, Edges::busy, x -> x.where(MOST, 0));
    }

    static void promise14_wear0IsTheLeast() {
        same("allowed", Edges.sorter(1496, 1, 0).where(0, 0), 10);
        Edges.refused(Edges.ARGUMENT, Edges::busy, x -> x.where(0, -1));
        Edges.refused(Edges.ARGUMENT, Edges::busy, x -> x.where(0, LEAST));
    }

    static void promise14_wear999IsTheGreatest() {
        same("allowed", Edges.sorter(2494, 1, 0).where(0, 999), 0);
        Edges.refused(Edges.ARGUMENT, Edges::busy, x -> x.where(0, 1000));
        Edges.refused(Edges.ARGUMENT, Edges::busy, x -> x.where(0, MOST));
    }

    static void promise14_answersRailsFrom0To5() {
        CoinRails x = Edges.home(6);
        for (int kind = 0; kind < 6; kind++) {
            same("would fall", x.where(kind, 0), kind);
        }
    }

    static void promise14_answers10To15ForAStuckOne() {
        for (int rail = 0; rail < 6; rail++) {
            same("would get stuck", Edges.sorter(1499 + 401 * rail, 1, 0).where(0, 0), 10 + rail);
        }
    }

    static void promise14_answersNoneForAReject() {
        same("would be a reject", Edges.sorter(4000, 1, 0).where(0, 0), -1);
    }

    static void promise14_changesNothing() {
        Edges.harmless(Edges::busy, x -> x.where(0, 0));
        Edges.harmless(Edges::busy, x -> x.where(3, 0));
        Edges.harmless(() -> Edges.fed(Edges.sorter(1400, 1, 0), 19, 0, 0), x -> x.where(0, 0));
        Edges.harmless(() -> Edges.sorter(1498, 1, 0), x -> x.where(0, 0));
    }

    static void promise14_answersAsFeedWould() {
        for (int wear = 0; wear <= 999; wear++) {
            CoinRails x = Edges.gaps(Edges.sorter(2290, 1, 0, 1500, 1, 0), 1401, 1900, 1300);
            x.feed(1, 100);
            int where = x.where(0, wear);
            same("wear " + wear, x.feed(0, wear), where);
        }
    }

    static void promise14_fullBagAndStuckRailAreRolledOver() {
        CoinRails x = Edges.fed(Edges.sorter(1400, 1, 0), 40, 0, 0);
        same("over the full one", x.where(0, 0), 1);
        x.setGap(1, 1400);
        x.feed(0, 0);
        same("over the stuck one too", x.where(0, 0), 2);
        x.takeBag(0);
        same("into the empty one", x.where(0, 0), 0);
    }

    // ---- Promise 15: mostWear

    static void promise15_kindThereIsNone() {
        Edges.refused(Edges.INDEX, CoinRails::new, x -> x.mostWear(0));
    }

    static void promise15_kind0IsTheLeast() {
        same("allowed", Edges.busy().mostWear(0), 999);
        Edges.refused(Edges.INDEX, Edges::busy, x -> x.mostWear(-1));
        Edges.refused(Edges.INDEX, Edges::busy, x -> x.mostWear(LEAST));
    }

    static void promise15_lastKindIsTheGreatest() {
        same("allowed", Edges.busy().mostWear(3), NONE);
        Edges.refused(Edges.INDEX, Edges::busy, x -> x.mostWear(4));
        same("allowed of six", Edges.full().mostWear(5), 387);
        Edges.refused(Edges.INDEX, Edges::full, x -> x.mostWear(6));
        Edges.refused(Edges.INDEX, Edges::busy, x -> x.mostWear(MOST));
    }

    static void promise15_999IfAllWearsFallHome() {
        same("on the first rail", Edges.sorter(1495, 1, 0).mostWear(0), 999);
    }

    static void promise15_999IfTheLastWearJustFallsHome() {
        // With a wear of 999 the size at rail 0 is 900, as is the gap.
        CoinRails x = Edges.gaps(Edges.sorter(1899, 1, 1), 900, 1903);
        same("most wear", x.mostWear(0), 999);
    }

    static void promise15_998IfTheLastWearAloneDoesNot() {
        CoinRails x = Edges.gaps(Edges.sorter(1898, 1, 1), 900, 1903);
        same("with 998", x.where(0, 998), 1);
        same("with 999", x.where(0, 999), 10);
        same("most wear", x.mostWear(0), 998);
    }

    static void promise15_wearStopsAt999OnItsWayToo() {
        // At rail 1 a wear of 999 is 999 still: the size is 900 there too.
        CoinRails x = Edges.gaps(Edges.sorter(1899, 1, 2), 900, 900, 1903);
        same("most wear", x.mostWear(0), 999);
    }

    static void promise15_0IfAWearOf1AlreadyDoesNot() {
        CoinRails x = Edges.sorter(1500, 1, 1);
        same("with 0", x.where(0, 0), 1);
        same("with 1", x.where(0, 1), 10);
        same("most wear", x.mostWear(0), 0);
    }

    static void promise15_1IfAWearOf2DoesNot() {
        same("most wear", Edges.sorter(1501, 1, 1).mostWear(0), 1);
    }

    static void promise15_noneIfItGetsStuckWithAWearOf0() {
        CoinRails x = Edges.sorter(1496, 1, 0);
        same("with 1", x.where(0, 1), 0);
        same("most wear", x.mostWear(0), NONE);
    }

    static void promise15_noneIfItIsTooBigWithAWearOf0() {
        CoinRails x = Edges.sorter(1900, 1, 0);
        same("with 405", x.where(0, 405), 0);
        same("most wear", x.mostWear(0), NONE);
    }

    static void promise15_noneIfItFallsAheadWithAWearOf0() {
        same("most wear", Edges.sorter(1400, 1, 1).mostWear(0), NONE);
    }

    static void promise15_noneOnAFullOrStuckRail() {
        CoinRails x = Edges.fed(Edges.sorter(1400, 1, 0), 39, 0, 0);
        same("with room for one", x.mostWear(0), 999);
        x.feed(0, 0);
        same("full", x.mostWear(0), NONE);
        same("stuck", Edges.busy().mostWear(1), NONE);
    }

    static void promise15_behindAFullOrStuckRail() {
        CoinRails x = Edges.sorter(1490, 1, 1, 1498, 1, 0);
        same("falls ahead", x.mostWear(0), NONE);
        x.feed(1, 0);
        same("over the stuck one", x.mostWear(0), 999);
        CoinRails y = Edges.fed(Edges.sorter(1490, 1, 1), 40, 0, 0);
        same("over the full one", y.mostWear(0), 999);
    }

    static void promise15_isAsTried() {
        for (int diameter = 1490; diameter <= 3510; diameter += 5) {
            for (int rail = 0; rail < 6; rail++) {
                CoinRails x = Edges.sorter(diameter, 1, rail);
                int most = NONE;
                while (most < 999 && x.where(0, most + 1) == rail) {
                    most++;
                }
                same("most wear of " + diameter + " on " + rail, x.mostWear(0), most);
            }
        }
    }

    static void promise15_changesNothing() {
        Edges.harmless(Edges::busy, x -> x.mostWear(0));
        Edges.harmless(() -> Edges.fed(Edges.sorter(1400, 1, 0), 19, 0, 0), x -> x.mostWear(0));
    }

    // ---- Promise 16: bestGap

    static void promise16_rail0IsTheLeast() {
        same("allowed", Edges.busy().bestGap(0), 1495);
        Edges.refused(Edges.INDEX, Edges::busy, x -> x.bestGap(-1));
        Edges.refused(Edges.INDEX, Edges::busy, x -> x.bestGap(LEAST));
    }

    static void promise16_rail5IsTheGreatest() {
        same("allowed", Edges.busy().bestGap(5), 4005);
        Edges.refused(Edges.INDEX, Edges::busy, x -> x.bestGap(6));
        Edges.refused(Edges.INDEX, Edges::busy, x -> x.bestGap(MOST));
    }

    static void promise16_noneWithoutKinds() {
        for (int rail = 0; rail < 6; rail++) {
            same("best gap", new CoinRails().bestGap(rail), NONE);
        }
    }

    static void promise16_noneIfNoKindShouldFallOnTheRail() {
        CoinRails x = Edges.sorter(1400, 1, 2);
        int[] due = {NONE, NONE, 1405, NONE, NONE, NONE};
        for (int rail = 0; rail < 6; rail++) {
            same("best gap", x.bestGap(rail), due[rail]);
        }
    }

    static void promise16_leastGapIs5AboveTheDiameter() {
        CoinRails x = Edges.sorter(1400, 1, 0);
        x.setGap(0, x.bestGap(0));
        same("falls", x.where(0, 0), 0);
        x.setGap(0, 1404);
        same("does not with one less", x.where(0, 0), 10);
    }

    static void promise16_leastDiameterOfAll() {
        same("best gap", Edges.sorter(1000, 1, 0).bestGap(0), 1005);
    }

    static void promise16_greatestDiameterOfAll() {
        same("best gap", Edges.sorter(4000, 1, 0).bestGap(0), 4005);
    }

    static void promise16_greatestOfItsKindsCounts() {
        same("best gap", Edges.sorter(1400, 1, 3, 1700, 1, 3, 1500, 1, 3).bestGap(3), 1705);
    }

    static void promise16_kindBehindThatJustRollsOver() {
        same("best gap", Edges.sorter(1400, 1, 0, 1405, 1, 1).bestGap(0), 1405);
    }

    static void promise16_kindBehindThatWouldJustGetStuck() {
        same("best gap", Edges.sorter(1400, 1, 0, 1404, 1, 1).bestGap(0), NONE);
    }

    static void promise16_kindFarBehindCountsToo() {
        same("best gap", Edges.sorter(1400, 1, 0, 3000, 1, 1, 1404, 1, 5).bestGap(0), NONE);
        same("of the last rail", Edges.sorter(1400, 1, 0, 3000, 1, 1, 1404, 1, 5).bestGap(5), 1409);
    }

    static void promise16_kindAheadDoesNotCount() {
        same("best gap", Edges.sorter(1400, 1, 1, 1000, 1, 0).bestGap(1), 1405);
    }

    static void promise16_wearIs0WhenItComesToTheRail() {
        // Five rails would wear it off by 5 if it was fed.
        same("best gap", Edges.sorter(2000, 1, 5).bestGap(5), 2005);
        same("best gap", Edges.sorter(2000, 1, 4, 2004, 1, 5).bestGap(4), NONE);
        same("best gap", Edges.sorter(2000, 1, 4, 2005, 1, 5).bestGap(4), 2005);
    }

    static void promise16_asIfNotStuck() {
        CoinRails x = Edges.fed(Edges.sorter(1498, 1, 0), 1, 0, 0);
        same("best gap", x.bestGap(0), 1503);
    }

    static void promise16_asIfNotFull() {
        CoinRails x = Edges.fed(Edges.sorter(1400, 1, 0), 40, 0, 0);
        same("best gap", x.bestGap(0), 1405);
    }

    static void promise16_gapThatIsSetDoesNotCount() {
        same("best gap", Edges.gaps(Edges.sorter(1400, 1, 0), 900).bestGap(0), 1405);
        same("best gap", Edges.gaps(Edges.sorter(1400, 1, 0), 4100).bestGap(0), 1405);
    }

    static void promise16_changesNothing() {
        Edges.harmless(Edges::busy, x -> x.bestGap(0));
    }

    // ---- Promise 17: supply

    static void promise17_kindThereIsNone() {
        Edges.refused(Edges.INDEX, CoinRails::new, x -> x.supply(0));
    }

    static void promise17_kind0IsTheLeast() {
        same("allowed", Edges.busy().supply(0), 36);
        Edges.refused(Edges.INDEX, Edges::busy, x -> x.supply(-1));
        Edges.refused(Edges.INDEX, Edges::busy, x -> x.supply(LEAST));
    }

    static void promise17_lastKindIsTheGreatest() {
        same("allowed", Edges.busy().supply(3), 0);
        Edges.refused(Edges.INDEX, Edges::busy, x -> x.supply(4));
        same("allowed of six", Edges.full().supply(5), 39);
        Edges.refused(Edges.INDEX, Edges::full, x -> x.supply(6));
        Edges.refused(Edges.INDEX, Edges::busy, x -> x.supply(MOST));
    }

    static void promise17_atMost40() {
        same("supply of an empty bag", Edges.sorter(1000, 1, 0).supply(0), 40);
    }

    static void promise17_goesDownTo0() {
        CoinRails x = Edges.sorter(1490, 1, 0);
        for (int left = 40; left >= 1; left--) {
            same("supply", x.supply(0), left);
            same("falls", x.feed(0, 0), 0);
        }
        same("supply of a full bag", x.supply(0), 0);
    }

    static void promise17_coinsOfOtherKindsTakeRoom() {
        CoinRails x = Edges.fed(Edges.sorter(1490, 1, 0, 1400, 1, 1), 39, 1, 0);
        same("supply", x.supply(0), 1);
    }

    static void promise17_0IfTheFirstGetsStuck() {
        same("supply", Edges.sorter(1496, 1, 0).supply(0), 0);
        same("supply of one that just falls", Edges.sorter(1495, 1, 0).supply(0), 40);
    }

    static void promise17_0IfTheFirstFallsAhead() {
        same("supply", Edges.sorter(1400, 1, 1).supply(0), 0);
    }

    static void promise17_0IfTheFirstIsAReject() {
        same("supply", Edges.sorter(4000, 1, 5).supply(0), 0);
    }

    static void promise17_0OnAStuckRail() {
        CoinRails x = Edges.fed(Edges.sorter(1400, 1, 0, 1498, 1, 0), 1, 1, 0);
        same("supply", x.supply(0), 0);
        x.free(0);
        same("supply when freed", x.supply(0), 39);
    }

    static void promise17_behindAFullOrStuckRail() {
        CoinRails x = Edges.fed(Edges.sorter(1400, 1, 1), 40, 0, 0);
        same("behind a full one", x.supply(0), 40);
        CoinRails y = Edges.fed(Edges.sorter(1400, 1, 1, 1498, 1, 0), 1, 1, 0);
        same("behind a stuck one", y.supply(0), 40);
    }

    static void promise17_gapThatGrowsByThemDoesNoHarm() {
        CoinRails x = Edges.sorter(1900, 1, 1);
        x.setGap(1, 1904);
        Edges.fed(x, 19, 0, 0);
        same("supply", x.supply(0), 21);
        for (int left = 21; left >= 1; left--) {
            same("falls", x.feed(0, 0), 1);
        }
        same("the next", x.feed(0, 0), 2);
    }

    static void promise17_isAsTried() {
        for (int diameter = 1490; diameter <= 3510; diameter += 40) {
            for (int rail = 0; rail < 6; rail++) {
                CoinRails x = Edges.sorter(diameter, 1, rail, 1400, 1, 0);
                Edges.fed(x, 25, 1, 0);
                int supply = x.supply(0);
                int fallen = 0;
                while (fallen <= 40 && x.feed(0, 0) == rail) {
                    fallen++;
                }
                same("supply of " + diameter + " on " + rail, supply, fallen);
            }
        }
    }

    static void promise17_changesNothing() {
        Edges.harmless(Edges::busy, x -> x.supply(0));
        Edges.harmless(() -> Edges.fed(Edges.sorter(1400, 1, 0), 19, 0, 0), x -> x.supply(0));
    }

    // ---- Promise 18: worstKind

    static void promise18_noneWithoutKinds() {
        same("worst kind", new CoinRails().worstKind(), NONE);
    }

    static void promise18_noneWithoutCoins() {
        same("worst kind", Edges.home(6).worstKind(), NONE);
    }

    static void promise18_noneWithoutMisfits() {
        CoinRails x = Edges.fed(Edges.sorter(1400, 1, 0, 1498, 1, 5, 4000, 1, 0), 3, 0, 0);
        x.feed(1, 0);
        x.feed(2, 0);
        same("stuck ones and rejects are none", x.worstKind(), NONE);
    }

    static void promise18_oneMisfitIsEnough() {
        CoinRails x = Edges.fed(Edges.sorter(1400, 1, 0, 1300, 1, 1), 3, 0, 0);
        x.feed(1, 0);
        same("worst kind", x.worstKind(), 1);
    }

    static void promise18_ofSeveralTheLowest() {
        CoinRails x = Edges.sorter(1400, 1, 1, 1400, 1, 1, 1400, 1, 1);
        x.feed(2, 0);
        same("the one", x.worstKind(), 2);
        x.feed(1, 0);
        same("of two", x.worstKind(), 1);
        x.feed(0, 0);
        same("of three", x.worstKind(), 0);
        x.feed(2, 0);
        same("the one with more", x.worstKind(), 2);
    }

    static void promise18_kind0AndKind5() {
        CoinRails x = Edges.home(6);
        x.feed(5, 999);
        same("the sixth", x.worstKind(), 5);
        x.setHome(0, 5);
        x.feed(0, 0);
        same("the first", x.worstKind(), 0);
    }

    static void promise18_misfitsOfAllBagsAreAdded() {
        CoinRails x = Edges.gaps(Edges.sorter(1000, 1, 3, 1000, 1, 5), 4100, 4100, 4100, 4100, 4100, 4100);
        Edges.fed(x, 2, 1, 0);
        x.feed(0, 0);
        x.setGap(0, 900);
        same("two against one", x.worstKind(), 1);
        x.feed(0, 0);
        x.setGap(1, 900);
        same("two against two", x.worstKind(), 0);
        x.setGap(2, 900);
        Edges.fed(x, 5, 0, 0);
        x.feed(1, 0);
        same("coins that are right do not count", x.worstKind(), 1);
    }

    static void promise18_coinsTakenDoNotCount() {
        CoinRails x = Edges.fed(Edges.sorter(1400, 1, 1), 3, 0, 0);
        x.takeBag(0);
        same("worst kind", x.worstKind(), NONE);
    }

    static void promise18_changesNothing() {
        Edges.harmless(Edges::busy, x -> x.worstKind());
    }

    // ---- Promise 19: right

    static void promise19_1WithoutCoins() {
        Edges.same("new", new CoinRails().right(), 1.0);
        CoinRails x = Edges.fed(Edges.sorter(1498, 1, 5, 4000, 1, 0), 1, 0, 0);
        x.feed(1, 0);
        Edges.same("a stuck one and a reject alone", x.right(), 1.0);
    }

    static void promise19_1WithoutMisfits() {
        Edges.same("right", Edges.fed(Edges.sorter(1400, 1, 0), 3, 0, 0).right(), 1.0);
    }

    static void promise19_0WithMisfitsAlone() {
        Edges.same("right", Edges.fed(Edges.sorter(1400, 1, 1), 3, 0, 0).right(), 0.0);
    }

    static void promise19_1AgainWhenTheBagIsTaken() {
        CoinRails x = Edges.fed(Edges.sorter(1400, 1, 1), 3, 0, 0);
        x.takeBag(0);
        Edges.same("right", x.right(), 1.0);
    }

    static void promise19_isDividedAsDoubles() {
        CoinRails x = Edges.fed(Edges.sorter(1400, 1, 0, 1300, 1, 5), 1, 0, 0);
        Edges.fed(x, 2, 1, 0);
        Edges.same("a third", x.right(), 1.0 / 3.0);
        CoinRails y = Edges.sorter(1400, 1, 0);
        for (int coins = 1; coins <= 240; coins++) {
            y.feed(0, 0);
            Edges.same("of " + coins, y.right(), (double) Math.min(40, coins) / (double) coins);
        }
    }

    static void promise19_allBagsFull() {
        CoinRails x = Edges.fed(Edges.sorter(1400, 1, 0, 1300, 1, 5), 239, 0, 0);
        Edges.same("40 of 239", x.right(), 40.0 / 239.0);
        x.feed(1, 0);
        Edges.same("41 of 240", x.right(), 41.0 / 240.0);
    }

    static void promise19_changesNothing() {
        Edges.harmless(Edges::busy, x -> x.right());
    }
}
