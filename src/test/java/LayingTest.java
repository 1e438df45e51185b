/** Promises 13 and 14: lay and place. */
public final class LayingTest {
    public static void main(String[] args) {
        aBoxStandsAroundTheMiddle();
        theSpiralTurns();
        theFlatBoxIsTriedFirst();
        groupsStandTogether();
        theMarginIsKept();
        theSpiralHasAnEnd();
        theLastPointIsTried();
        placesAreKept();
        aKeptWordStandsAsItStood();
        aBetterRankTakesThePlace();
        movedWordsAreCounted();
        layIsUndoable();
        wrongCallsAreRefused();
        Check.end("LayingTest");
    }

    private static void aBoxStandsAroundTheMiddle() {
        SpiralWords x = Check.cloudOf("abc,1,00;");
        Check.noPlace("before a laying", x, 0);
        Check.same("lay", 1, x.lay(false));
        Check.place("flat", x, 0, 23, 15, 15, 10, 0);
        x.setKind(0, 1, 0);
        Check.same("lay", 1, x.lay(false));
        Check.place("upright", x, 0, 25, 13, 10, 15, 1);
        x.setWays(0, 2, 3);
        x.setCanvas(11, 13);
        Check.same("lay", 1, x.lay(false));
        Check.place("odd sides", x, 0, 2, 2, 6, 9, 1);
        Check.same("lay without words", 0, new SpiralWords().lay(true));
    }

    private static void theSpiralTurns() {
        SpiralWords x = Check.letters(12, "00");
        x.setCanvas(20, 20);
        x.setWays(0, 3, 1);
        Check.same("lay", 12, x.lay(false));
        int[][] points = {{10, 10}, {13, 10}, {13, 13}, {10, 13}, {7, 13}, {7, 10}, {7, 7}, {10, 7}, {13, 7}, {16, 7},
            {16, 10}, {16, 13}};
        for (int word = 0; word < points.length; word++) {
            Check.place("stride 3", x, word, points[word][0], points[word][1] - 1, 1, 2, 0);
        }
    }

    private static void theFlatBoxIsTriedFirst() {
        SpiralWords x = Check.cloudOf("abcdefghij,1,20;bbbbbbbbbb,1,20;");
        x.setCanvas(10, 10);
        x.setWays(0, 1, 1);
        Check.same("lay", 2, x.lay(false));
        Check.place("flat, though both are possible", x, 0, 0, 4, 10, 2, 0);
        Check.place("flat, further on the spiral", x, 1, 0, 6, 10, 2, 0);
        SpiralWords y = Check.cloudOf("abcd,1,20;");
        y.setCanvas(10, 20);
        Check.same("lay", 1, y.lay(false));
        Check.place("upright, where flat is not possible", y, 0, 0, 0, 10, 20, 1);
        y.setKind(0, 0, 0);
        Check.same("lay", 0, y.lay(false));
        Check.noPlace("flat alone", y, 0);
    }

    private static void groupsStandTogether() {
        SpiralWords x = Check.cloudOf("a,9,00;b,8,01;c,7,01;d,6,00;");
        x.setCanvas(20, 20);
        x.setWays(0, 4, 1);
        Check.same("lay", 4, x.lay(false));
        Check.place("the first of group 0", x, 0, 10, 9);
        Check.place("the first of group 1 begins in the middle", x, 1, 14, 9);
        Check.place("the next begins at the first of group 1", x, 2, 18, 9);
        Check.place("the next of group 0 begins at the first of group 0", x, 3, 14, 13);
        // The first of group 1 by rank is now c, which stands in the middle itself.
        x.setWeight(2, 10);
        x.lay(false);
        Check.place("c is the first now", x, 2, 10, 9);
        Check.place("a is the next", x, 0, 14, 9);
        Check.place("b begins at c", x, 1, 14, 13);
        Check.place("d begins at a", x, 3, 18, 9);
    }

    private static void theMarginIsKept() {
        SpiralWords x = Check.letters(2, "00");
        x.setCanvas(20, 20);
        x.setWays(1, 1, 1);
        x.lay(false);
        Check.place("margin 1", x, 0, 10, 9);
        Check.place("margin 1: a free column", x, 1, 12, 8);
        x.setWays(2, 1, 1);
        x.lay(false);
        // The third column to the right is first reached on the row two above the middle.
        Check.place("margin 2: two free columns", x, 1, 13, 7);
        SpiralWords y = Check.cloudOf("abcdefghij,1,00;b,1,00;");
        y.setCanvas(10, 10);
        y.setWays(1, 1, 1);
        Check.same("lay", 2, y.lay(false));
        // (8, 8) is the first point whose box leaves row 6 free below rows 4 and 5.
        Check.place("margin 1: a free row", y, 1, 8, 7);
        y.setWays(3, 1, 1);
        Check.same("margin 3: below rows 4 and 5 there are four rows, not five", 1, y.lay(false));
        Check.noPlace("margin 3", y, 1);
        y.setCanvas(10, 11);
        Check.same("margin 3: three free rows below rows 4 and 5, and two for the box", 2, y.lay(false));
        Check.place("margin 3", y, 1, 9, 9, 1, 2, 0);
    }

    private static void theSpiralHasAnEnd() {
        SpiralWords x = Check.letters(8, "00");
        x.setCanvas(80, 10);
        x.setWays(0, 1, 5);
        Check.same("the spiral goes 19 columns far on both sides", 7, x.lay(false));
        int[] lefts = {38, 43, 33, 48, 28, 53, 23};
        for (int word = 0; word < 7; word++) {
            Check.place("a row", x, word, lefts[word], 0, 5, 10, 0);
        }
        Check.noPlace("the last", x, 7);
        x.setWays(0, 2, 5);
        Check.same("with the stride 2 it goes further", 8, x.lay(false));
    }

    private static void theLastPointIsTried() {
        // Only on row 1, 19 strides up, a small box is possible: it is reached 18 to 2 strides to the left alone.
        SpiralWords x = Check.cloudOf("abcdefg,1000,10;bbbbbbb,1,00;");
        x.setCanvas(10, 40);
        x.setWays(1, 1, 5);
        Check.same("point 1500", 2, x.lay(false));
        Check.place("the big one", x, 0, 0, 3, 10, 35, 1);
        Check.place("point 1500", x, 1, 0, 0, 7, 2, 0);
        SpiralWords y = Check.cloudOf("abcdefg,1000,10;bbbbbbbb,1,00;");
        y.setCanvas(10, 40);
        y.setWays(1, 1, 5);
        Check.same("point 1501", 1, y.lay(false));
        Check.noPlace("point 1501", y, 1);
    }

    private static void placesAreKept() {
        SpiralWords x = Check.cloudOf("ab,1,00;");
        Check.same("nothing to keep", 1, x.lay(true));
        Check.place("nothing to keep", x, 0, 25, 15, 10, 10, 0);
        x.setCanvas(50, 30);
        x.setWays(0, 2, 3);
        x.lay(true);
        Check.place("around the old point, with the present size", x, 0, 27, 17, 6, 6, 0);
        x.lay(false);
        Check.place("without keeping", x, 0, 22, 12, 6, 6, 0);
        x.setCanvas(24, 40);
        x.lay(true);
        Check.place("off the canvas: the spiral", x, 0, 9, 17, 6, 6, 0);
        x.setKind(0, 1, 0);
        x.lay(true);
        Check.place("flat is not allowed any more", x, 0, 9, 17, 6, 6, 1);
        x.setCanvas(30, 40);
        x.setKind(0, 2, 0);
        x.lay(true);
        Check.place("upright is allowed with 2", x, 0, 9, 17, 6, 6, 1);
        x.setKind(0, 0, 0);
        x.lay(true);
        Check.place("upright is not allowed any more", x, 0, 12, 17, 6, 6, 0);
    }

    private static void aKeptWordStandsAsItStood() {
        SpiralWords x = Check.cloudOf("abcd,1,20;");
        x.setCanvas(10, 20);
        x.lay(false);
        x.setCanvas(60, 40);
        x.lay(true);
        Check.place("upright as it stood", x, 0, 0, 0, 10, 20, 1);
        x.lay(false);
        Check.place("flat first", x, 0, 20, 15, 20, 10, 0);
    }

    private static void aBetterRankTakesThePlace() {
        SpiralWords x = Check.cloudOf("a,9,00;b,9,00;");
        x.setCanvas(20, 20);
        x.setWays(0, 1, 2);
        x.lay(false);
        Check.place("a", x, 0, 9, 8, 2, 4, 0);
        Check.place("b", x, 1, 11, 7, 2, 4, 0);
        x.setWays(0, 1, 4);
        x.setWeight(1, 10);
        // b, 4 wide and 8 high, stays around (12, 9); a has the size 1 and its old point (10, 10) is covered.
        Check.same("lay", 2, x.lay(true));
        Check.place("b stays", x, 1, 10, 5, 4, 8, 0);
        Check.same("both moved", 2, x.value(7));
        // From b's point the spiral leaves b's columns first at (14, 8).
        Check.place("a begins at b's point", x, 0, 14, 7, 1, 2, 0);
    }

    private static void movedWordsAreCounted() {
        SpiralWords x = Check.cloudOf("ab,1,20;cdefghijkl,1,00;");
        x.lay(false);
        Check.same("new places are no moves", 0, x.value(7));
        x.setKind(0, 1, 0);
        x.lay(true);
        Check.same("it stands upright now", 1, x.place(0, 4));
        Check.same("but has the same box", 0, x.value(7));
        x.setCanvas(20, 40);
        Check.same("one is left out", 1, x.lay(true));
        Check.noPlace("it is left out", x, 1);
        Check.same("both moved", 2, x.value(7));
        x.lay(true);
        Check.same("without a place before none moved", 0, x.value(7));
        x.setCanvas(60, 40);
        Check.same("it is there again", 2, x.lay(true));
        Check.same("a word without a place before did not move", 0, x.value(7));
        x.remove(0);
        x.setWays(0, 2, 4);
        x.lay(true);
        Check.same("another width and height", 1, x.value(7));
    }

    private static void layIsUndoable() {
        SpiralWords x = Check.cloudOf("ab,1,20;");
        x.lay(false);
        x.setCanvas(20, 20);
        x.lay(true);
        Check.place("laid", x, 0, 5, 5, 10, 10, 0);
        Check.same("value(7)", 1, x.value(7));
        x.lay(true);
        Check.same("undo of no change", 3, x.undo());
        Check.same("value(7)", 1, x.value(7));
        Check.same("undo", 2, x.undo());
        Check.place("back", x, 0, 25, 15, 10, 10, 0);
        Check.same("undo", 1, x.undo());
        Check.same("undo", 0, x.undo());
        Check.refuses("undo", x, Check.STATE, x::undo);
    }

    private static void wrongCallsAreRefused() {
        SpiralWords x = Check.cloudOf("ab,1,20;");
        for (int pass = 0; pass < 2; pass++) {
            for (int what : new int[] {-1, 5, Integer.MIN_VALUE, Integer.MAX_VALUE}) {
                Check.refuses("place(0, " + what + ")", x, Check.ARGUMENT, () -> x.place(0, what));
                Check.refuses("place(1, " + what + ")", x, Check.INDEX, () -> x.place(1, what));
                Check.refuses("place(-1, " + what + ")", x, Check.INDEX, () -> x.place(-1, what));
            }
            Check.refuses("place(1, 0)", x, Check.INDEX, () -> x.place(1, 0));
            x.lay(false);
        }
    }
}
