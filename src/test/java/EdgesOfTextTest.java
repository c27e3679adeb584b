/** Boundary cases of the promises 20 to 22, and of "Text" among the terms. */
public final class EdgesOfTextTest {
    public static void main(String[] args) {
        Edges.run(EdgesOfTextTest.class);
    }

    private static void same(String what, long got, long due) {
        Edges.same(what, got, due);
    }

    /** The text has a syntax error at a position, for three kinds, and then nothing changes. */
    private static void wrongAt(int position, String text) {
        CoinRails x = Edges.written(Edges.home(3), text);
        same("parse of " + text, x.parse(), -10 - position);
        Edges.harmless(() -> Edges.written(Edges.fed(Edges.home(3), 3, 0, 0), text), y -> y.parse());
        Edges.harmless(() -> {
            CoinRails y = Edges.fed(Edges.home(3), 2, 0, 0);
            y.undo();
            y.undo();
            return Edges.written(y, text);
        }, y -> y.parse());
    }

    /** The wear of the one coin of a text, told by the rail in which it gets stuck; with less than due it would not. */
    private static int wearRead(String text, int due) {
        CoinRails x = Edges.gaps(Edges.sorter(2000, 1, 0), 2001 - due);
        Edges.written(x, text);
        same("parse of " + text, x.parse(), 0);
        return x.rail(0, 4);
    }

    // ---- Promise 20: append

    static void promise20_value0IsTheLeast() {
        same("allowed", new CoinRails().append(0), 1);
        Edges.refused(Edges.ARGUMENT, Edges::busy, x -> x.append(-1));
        Edges.refused(Edges.ARGUMENT, Edges::busy, x -> x.append(Integer.MIN_VALUE));
    }

    static void promise20_value127IsTheGreatest() {
        same("allowed", new CoinRails().append(127), 1);
        Edges.refused(Edges.ARGUMENT, Edges::busy, x -> x.append(128));
        Edges.refused(Edges.ARGUMENT, Edges::busy, x -> x.append(Integer.MAX_VALUE));
    }

    static void promise20_byte90IsTheLast() {
        CoinRails x = Edges.written(new CoinRails(), "x".repeat(89));
        same("the last", x.append('x'), 90);
        Edges.refused(Edges.STATE, () -> Edges.written(new CoinRails(), "x".repeat(90)), y -> y.append('x'));
    }

    static void promise20_refusedByteLeavesTheTextAsItIs() {
        Edges.refused(Edges.STATE, Edges::full, x -> x.append('0'));
        Edges.refused(Edges.ARGUMENT, Edges::busy, x -> x.append(128));
    }

    static void promise20_answersTheNewLength() {
        CoinRails x = new CoinRails();
        for (int length = 1; length <= 90; length++) {
            same("length", x.append(';'), length);
        }
    }

    static void promise20_roomForAll90AgainWhenCleared() {
        CoinRails x = Edges.written(new CoinRails(), "x".repeat(90));
        x.clearText();
        for (int length = 1; length <= 90; length++) {
            same("length", x.append(';'), length);
        }
        same("full again", x.clearText(), 90);
    }

    static void promise20_isNotUndoable() {
        CoinRails x = Edges.home(1);
        x.append('0');
        same("undo of the kind", x.undo(), 0);
        same("length", x.clearText(), 1);
    }

    // ---- Promise 21: clearText

    static void promise21_emptyText() {
        CoinRails x = new CoinRails();
        same("length", x.clearText(), 0);
        same("again", x.clearText(), 0);
    }

    static void promise21_fullText() {
        CoinRails x = Edges.written(new CoinRails(), "x".repeat(90));
        same("length", x.clearText(), 90);
        same("again", x.clearText(), 0);
    }

    static void promise21_oldBytesAreGone() {
        CoinRails x = Edges.written(Edges.home(3), "0w12;1;");
        x.clearText();
        x.append('0');
        same("ends too early", x.parse(), -11);
        x.append(';');
        same("one coin", x.parse(), 1);
    }

    static void promise21_isNotUndoable() {
        CoinRails x = Edges.written(Edges.home(1), "0;");
        x.clearText();
        same("undo of the kind", x.undo(), 0);
        same("length", x.clearText(), 0);
    }

    // ---- Promise 22: parse

    static void promise22_emptyText() {
        CoinRails x = Edges.home(1);
        same("coins", x.parse(), 0);
        same("fed", x.value(1), 0);
        same("saved", x.undo(), 1);
    }

    static void promise22_emptyTextWithoutKinds() {
        CoinRails x = new CoinRails();
        same("coins", x.parse(), 0);
        same("saved", x.undo(), 0);
    }

    static void promise22_shortestCoin() {
        CoinRails x = Edges.written(Edges.home(1), "0;");
        same("coins", x.parse(), 1);
        same("fed", x.kind(0, 6), 1);
    }

    static void promise22_kind0AndTheLastKind() {
        CoinRails x = Edges.written(Edges.home(3), "0;2;");
        same("coins", x.parse(), 2);
        same("kind 0", x.count(0, 0), 1);
        same("kind 2", x.count(2, 2), 1);
        CoinRails y = Edges.written(Edges.home(6), "5;");
        same("coins", y.parse(), 1);
        same("kind 5", y.count(5, 5), 1);
    }

    static void promise22_kindThatThereIsNot() {
        wrongAt(0, "3;");
        wrongAt(0, "9;");
        wrongAt(2, "2;3;");
        CoinRails x = Edges.written(Edges.home(6), "6;");
        same("of six kinds", x.parse(), -10);
    }

    static void promise22_withoutKindsNoDigitCanStand() {
        same("parse", Edges.written(new CoinRails(), "0;").parse(), -10);
    }

    static void promise22_kindsAreThoseThereAreWhenItIsParsed() {
        CoinRails x = Edges.written(new CoinRails(), "0;");
        x.addKind(1400, 1, 0);
        same("by now", x.parse(), 1);
        x.undo();
        x.undo();
        same("no longer", x.parse(), -10);
    }

    static void promise22_bytesBesideTheDigitsAreNoKinds() {
        wrongAt(0, "/;");
        wrongAt(0, ":;");
        CoinRails x = Edges.written(Edges.home(6), "0;/;");
        same("below 0", x.parse(), -12);
    }

    static void promise22_kindHasOneDigitOnly() {
        wrongAt(1, "00;");
        wrongAt(1, "12;");
    }

    static void promise22_wearIs0WithoutOne() {
        same("wear", wearRead("0;", 0), 0);
    }

    static void promise22_wearOfOneDigit() {
        same("wear", wearRead("0w0;", 0), 0);
        same("wear", wearRead("0w1;", 1), 1);
        same("wear", wearRead("0w9;", 9), 9);
    }

    static void promise22_wearOfTwoDigits() {
        same("wear", wearRead("0w10;", 10), 10);
        same("wear", wearRead("0w99;", 99), 99);
        same("wear", wearRead("0w07;", 7), 7);
    }

    static void promise22_wearOfThreeDigits() {
        same("wear", wearRead("0w100;", 100), 100);
        same("wear", wearRead("0w999;", 999), 999);
        same("wear", wearRead("0w000;", 0), 0);
        same("wear", wearRead("0w012;", 12), 12);
    }

    static void promise22_fourthDigitCannotStand() {
        wrongAt(5, "0w1234;");
        wrongAt(5, "0w0000;");
        wrongAt(5, "0w0001");
        wrongAt(7, "1;0w1234;");
    }

    static void promise22_wearWithoutADigit() {
        wrongAt(2, "0w;");
        wrongAt(2, "0ww1;");
        wrongAt(2, "0w-1;");
        wrongAt(2, "0w+1;");
    }

    static void promise22_bytesBesideTheDigitsAreNoWears() {
        wrongAt(2, "0w/;");
        wrongAt(2, "0w:;");
        wrongAt(3, "0w1/;");
        wrongAt(3, "0w1:;");
        wrongAt(4, "0w12:;");
    }

    static void promise22_wMustBeSmall() {
        wrongAt(1, "0W1;");
        wrongAt(1, "0v1;");
        wrongAt(1, "0x1;");
    }

    static void promise22_noSpacesAnywhere() {
        wrongAt(0, " 0w1;");
        wrongAt(1, "0 w1;");
        wrongAt(2, "0w 1;");
        wrongAt(3, "0w1 ;");
        wrongAt(5, "0w123 ;");
        wrongAt(4, "0w1; ");
        wrongAt(4, "0w1; 0;");
        wrongAt(0, " ");
    }

    static void promise22_noOtherEndOfACoin() {
        wrongAt(1, "0,0;");
        wrongAt(1, "0:");
        wrongAt(1, "0\n");
        wrongAt(5, "0w123:");
        wrongAt(5, "0w123<");
        wrongAt(5, "0w123w");
    }

    static void promise22_noCoinWithoutAKind() {
        wrongAt(0, ";");
        wrongAt(2, "0;;");
        wrongAt(0, "w1;");
        wrongAt(5, "0w12;w1;");
    }

    static void promise22_leastAndGreatestByteCannotStand() {
        wrongAt(0, "\0");
        wrongAt(1, "0\0;");
        wrongAt(2, "0;\0");
        wrongAt(0, "\177");
        wrongAt(3, "0w1\177");
    }

    static void promise22_endsTooEarlyAfterTheKind() {
        wrongAt(1, "0");
        wrongAt(3, "0;1");
    }

    static void promise22_endsTooEarlyAfterTheW() {
        wrongAt(2, "0w");
        wrongAt(6, "1w9;2w");
    }

    static void promise22_endsTooEarlyAfterEachDigitOfTheWear() {
        wrongAt(3, "0w1");
        wrongAt(4, "0w12");
        wrongAt(5, "0w123");
    }

    static void promise22_firstOfSeveralErrorsIsTold() {
        wrongAt(2, "0;3;x");
        wrongAt(1, "0x;9");
        wrongAt(0, "90");
    }

    static void promise22_textOf90BytesWith45Coins() {
        CoinRails x = Edges.written(Edges.home(1), "0;".repeat(45));
        same("coins", x.parse(), 45);
        same("bag 0", x.rail(0, 2), 40);
        same("bag 1", x.rail(1, 2), 5);
    }

    static void promise22_textOf90BytesWith15Coins() {
        CoinRails x = Edges.written(Edges.home(1), "0w999;".repeat(15));
        same("coins", x.parse(), 15);
        same("fed", x.value(1), 15);
    }

    static void promise22_textOf90BytesThatEndsTooEarly() {
        wrongAt(90, "0;".repeat(44) + "0w");
        wrongAt(90, "0w12;".repeat(17) + "0w123");
        wrongAt(90, "0w1;".repeat(22) + "1w");
    }

    static void promise22_lastByteOf90CannotStand() {
        wrongAt(89, "0;".repeat(44) + "0x");
        wrongAt(89, "0;".repeat(44) + "00");
        wrongAt(89, "0w1;".repeat(22) + "0 ");
    }

    static void promise22_stuckCoinsAndRejectsAreNotAnswered() {
        CoinRails x = Edges.written(Edges.sorter(1400, 1, 0, 1498, 1, 0, 4000, 1, 0), "0;1;2;0;");
        same("coins that fall", x.parse(), 2);
        same("stuck", x.value(3), 1);
        same("rejects", x.value(4), 1);
        same("over the stuck one", x.count(1, 0), 1);
    }

    static void promise22_stuckInRail0AloneIsNotAnswered() {
        same("coins that fall", Edges.written(Edges.sorter(1498, 1, 0), "0;").parse(), 0);
    }

    static void promise22_rejectAloneIsNotAnswered() {
        same("coins that fall", Edges.written(Edges.sorter(4000, 1, 0), "0;").parse(), 0);
    }

    static void promise22_fallIntoTheLastRailIsAnswered() {
        same("coins that fall", Edges.written(Edges.sorter(3490, 1, 0), "0;").parse(), 1);
    }

    static void promise22_coinsAreFedInTheirOrder() {
        CoinRails x = Edges.written(Edges.sorter(1498, 1, 0, 1400, 1, 0), "1;0;1;");
        x.parse();
        same("ahead of the stuck one", x.count(0, 1), 1);
        same("behind it", x.count(1, 1), 1);
    }

    static void promise22_isFedAsByFeed() {
        CoinRails x = Edges.written(Edges.home(3), "0;1w5;2w390;0w999;1;2w1;");
        CoinRails y = Edges.home(3);
        x.parse();
        y.feed(0, 0);
        y.feed(1, 5);
        y.feed(2, 390);
        y.feed(0, 999);
        y.feed(1, 0);
        y.feed(2, 1);
        Edges.alike("after parse", x, y);
    }

    static void promise22_textStaysAsItIs() {
        CoinRails x = Edges.written(Edges.home(3), "0;1w5;");
        same("coins", x.parse(), 2);
        same("coins again", x.parse(), 2);
        same("length", x.clearText(), 6);
    }

    static void promise22_textWithAnErrorStaysAsItIs() {
        CoinRails x = Edges.written(Edges.home(3), "0;1w");
        same("error", x.parse(), -14);
        same("error again", x.parse(), -14);
        x.append('5');
        x.append(';');
        same("coins when it is mended", x.parse(), 2);
    }

    static void promise22_nothingIsFedAheadOfAnError() {
        CoinRails x = Edges.written(Edges.home(3), "0;1;2;x");
        same("error", x.parse(), -16);
        same("fed", x.value(1), 0);
        same("undo of the kind", x.undo(), 2);
    }

    static void promise22_errorBehindManyCoinsFeedsNothing() {
        wrongAt(88, "0;".repeat(44) + "3;");
    }

    static void promise22_isUndoneByOneUndo() {
        Edges.undoable(Edges::busy, x -> x.parse());
        Edges.undoable(() -> Edges.written(Edges.busy(), "0;".repeat(45)), x -> x.parse());
    }

    static void promise22_coinsOfAnEarlierTextAreForgotten() {
        CoinRails x = Edges.written(Edges.home(3), "0;1;2;");
        x.parse();
        Edges.written(x, "0;");
        same("coins", x.parse(), 1);
        Edges.written(x, "");
        same("no coins", x.parse(), 0);
        same("fed", x.value(1), 4);
    }
}
