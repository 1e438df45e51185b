/** The edges that the document names in promises 15 to 19, a test for each sentence. */
public final class EdgesOfViewTest {
    private static final int[] OUTSIDE = {-1, -2, Integer.MIN_VALUE, Integer.MAX_VALUE};

    public static void main(String[] args) {
        wordAt();
        meetings();
        extent();
        covered();
        spread();
        Check.end("EdgesOfViewTest");
    }

    /** One word, flat with "0" and upright with "1", of this size in the middle of this canvas. */
    private static SpiralWords one(String letters, String direction, int size, int columns, int rows) {
        SpiralWords x = Check.cloudOf(letters + ",1," + direction + "0;");
        x.setWays(0, 1, size);
        x.setCanvas(columns, rows);
        x.lay(false);
        return x;
    }

    private static void extents(String name, SpiralWords x, int... due) {
        for (int what = 0; what < due.length; what++) {
            Check.same(name + ": extent(" + what + ")", due[what], x.extent(what));
        }
    }

    private static void wordAt() {
        Check.sentence("column: 0 to 79", () -> {
            SpiralWords x = one("abcdefghij", "0", 8, 80, 16);
            Check.same("wordAt(0, 0)", 0, x.wordAt(0, 0));
            Check.same("wordAt(79, 0)", 0, x.wordAt(79, 0));
            Check.same("wordAt(79, 15)", 0, x.wordAt(79, 15));
            Check.same("wordAt(79, 16)", -1, x.wordAt(79, 16));
        });
        Check.sentence("row: 0 to 49", () -> {
            SpiralWords x = one("abcdefghij", "1", 5, 80, 50);
            Check.same("wordAt(35, 0)", 0, x.wordAt(35, 0));
            Check.same("wordAt(44, 49)", 0, x.wordAt(44, 49));
            Check.same("wordAt(34, 49)", -1, x.wordAt(34, 49));
            Check.same("wordAt(45, 0)", -1, x.wordAt(45, 0));
        });
        Check.sentence("wordAt: Throws IndexOutOfBoundsException if column or row is out of range", () -> {
            SpiralWords x = one("ab", "0", 5, 60, 40);
            for (int side : OUTSIDE) {
                Check.refuses("the column " + side, x, Check.INDEX, () -> x.wordAt(side, 20));
                Check.refuses("the row " + side, x, Check.INDEX, () -> x.wordAt(30, side));
                Check.refuses("both " + side, x, Check.INDEX, () -> x.wordAt(side, side));
            }
            Check.refuses("the column 80", x, Check.INDEX, () -> x.wordAt(80, 0));
            Check.refuses("the row 50", x, Check.INDEX, () -> x.wordAt(0, 50));
            Check.refuses("the column 50 as a row", x, Check.INDEX, () -> x.wordAt(50, 79));
        });
        Check.sentence("wordAt beyond a small canvas is in range", () -> {
            SpiralWords x = one("ab", "0", 5, 60, 40);
            x.setCanvas(10, 10);
            Check.same("the cells of its box", 0, x.wordAt(25, 15));
            Check.same("the cells of its box", 0, x.wordAt(34, 24));
            Check.same("another cell", -1, x.wordAt(79, 49));
            Check.same("another cell", -1, new SpiralWords().wordAt(79, 49));
        });
        Check.sentence("Returns the word whose box has a cell.", () -> {
            SpiralWords x = one("ab", "0", 5, 60, 40);
            Check.same("the first cell", 0, x.wordAt(25, 15));
            Check.same("the last column", 0, x.wordAt(34, 15));
            Check.same("the last row", 0, x.wordAt(25, 24));
            Check.same("a column before it", -1, x.wordAt(24, 15));
            Check.same("a column behind it", -1, x.wordAt(35, 24));
            Check.same("a row above it", -1, x.wordAt(25, 14));
            Check.same("a row below it", -1, x.wordAt(34, 25));
        });
        Check.sentence("wordAt: NONE if there is none.", () -> {
            Check.same("no words", -1, new SpiralWords().wordAt(0, 0));
            SpiralWords x = Check.cloudOf("ab,1,00;");
            Check.same("a word without a place", -1, x.wordAt(0, 0));
            x.lay(false);
            Check.same("the box", 0, x.wordAt(30, 20));
            x.setWays(0, 1, 8);
            x.setCanvas(10, 10);
            x.lay(true);
            Check.same("a word that was left out", -1, x.wordAt(30, 20));
        });
        Check.sentence("of several (when a laying is due) the lowest one", () -> {
            SpiralWords x = Check.letters(6, "20");
            x.setCanvas(16, 12);
            x.setWays(0, 1, 2);
            x.lay(false);
            x.setWays(3, 4, 8);
            x.setWeight(5, 1000);
            x.setKind(0, 1, 3);
            x.remove(2);
            int[][] places = new int[5][];
            for (int word = 0; word < 5; word++) {
                places[word] = TextTest.placeOf(x, word);
            }
            for (int column = 0; column < 16; column++) {
                for (int row = 0; row < 12; row++) {
                    Check.same("wordAt(" + column + ", " + row + ")", lowest(places, column, row), x.wordAt(column, row));
                }
            }
        });
        Check.sentence("Returns the number of the word", () -> {
            SpiralWords x = Check.letters(24, "00");
            x.setWays(0, 3, 1);
            x.lay(false);
            for (int word = 0; word < 24; word++) {
                Check.same("wordAt", word, x.wordAt(x.place(word, 0), x.place(word, 1)));
                Check.same("wordAt", word, x.wordAt(x.place(word, 0), x.place(word, 1) + 1));
            }
            x.remove(0);
            Check.same("a cell of the first, which is removed", -1, x.wordAt(30, 20));
            Check.same("a cell of the second, which is the first now", 0, x.wordAt(33, 20));
        });
    }

    private static int lowest(int[][] places, int column, int row) {
        for (int word = 0; word < places.length; word++) {
            int[] place = places[word];
            if (column >= place[0] && column < place[0] + place[2] && row >= place[1] && row < place[1] + place[3]) {
                return word;
            }
        }
        return SpiralWords.NONE;
    }

    private static void meetings() {
        Check.sentence("Counts the pairs of words whose boxes share a cell.", () -> {
            Check.same("no words", 0, new SpiralWords().meetings());
            SpiralWords x = Check.letters(24, "20");
            Check.same("no places", 0, x.meetings());
            x.setWays(0, 1, 3);
            x.setCanvas(80, 50);
            Check.same("lay", 24, x.lay(false));
            Check.same("boxes that touch", 0, x.meetings());
            x.setWays(3, 4, 8);
            x.setWeight(0, 1000);
            x.setCanvas(10, 10);
            Check.same("when a laying is due", 0, x.meetings());
            x.lay(true);
            Check.same("words that are left out", 0, x.meetings());
        });
    }

    private static void extent() {
        Check.sentence("(NONE for 1 to 4 without a box)", () -> {
            extents("no words", new SpiralWords(), 0, -1, -1, -1, -1);
            SpiralWords x = Check.cloudOf("ab,1,00;");
            extents("before a laying", x, 0, -1, -1, -1, -1);
            x.lay(false);
            extents("laid", x, 100, 25, 15, 34, 24);
            x.setWays(0, 1, 8);
            x.setCanvas(10, 10);
            x.lay(false);
            extents("left out", x, 0, -1, -1, -1, -1);
            x.undo();
            x.remove(0);
            extents("removed", x, 0, -1, -1, -1, -1);
        });
        Check.sentence("0 the number of cells on the canvas that some box covers", () -> {
            SpiralWords x = one("ab", "0", 5, 60, 40);
            int[][] canvases = {{60, 40, 100}, {35, 25, 100}, {34, 25, 90}, {35, 24, 90}, {26, 16, 1}, {25, 50, 0},
                {80, 15, 0}, {30, 20, 25}, {10, 10, 0}, {80, 50, 100}};
            for (int[] sides : canvases) {
                x.setCanvas(sides[0], sides[1]);
                Check.same("extent(0) on " + sides[0] + " x " + sides[1], sides[2], x.extent(0));
            }
            extents("the whole canvas", one("abcdefghij", "0", 8, 80, 16), 1280, 0, 0, 79, 15);
            extents("the whole width in some rows", one("ab", "0", 5, 10, 50), 100, 0, 20, 9, 29);
            extents("the whole height", one("abcdefghij", "1", 5, 80, 50), 500, 35, 0, 44, 49);
        });
        Check.sentence("1 the leftmost column of a box, 2 the uppermost row, 3 the rightmost column, 4 the lowest row",
            () -> {
                extents("a box of one column", one("a", "0", 1, 11, 10), 2, 5, 4, 5, 5);
                extents("a box of one row", one("a", "1", 1, 10, 11), 2, 4, 5, 5, 5);
                SpiralWords x = Check.letters(24, "00");
                x.setWays(0, 4, 1);
                x.lay(false);
                extents("24 boxes", x, 48, 22, 11, 38, 28);
                x.remove(12);
                extents("without the first of the column 38 and the row 28", x, 46, 22, 11, 38, 28);
            });
        Check.sentence("1 to 4 tell of boxes (also beyond the canvas)", () -> {
            SpiralWords x = one("ab", "0", 5, 60, 40);
            x.setCanvas(10, 10);
            extents("a box beyond the canvas", x, 0, 25, 15, 34, 24);
        });
        Check.sentence("extent: Throws IllegalArgumentException if what is out of range", () -> {
            SpiralWords x = one("ab", "0", 5, 60, 40);
            SpiralWords none = new SpiralWords();
            for (int what : new int[] {-1, 5, 6, Integer.MIN_VALUE, Integer.MAX_VALUE}) {
                Check.refuses("extent(" + what + ")", x, Check.ARGUMENT, () -> x.extent(what));
                Check.refuses("extent(" + what + ") of none", none, Check.ARGUMENT, () -> none.extent(what));
            }
        });
    }

    private static void covered() {
        Check.sentence("Returns extent(0), converted to double, divided by W * H, converted to double.", () -> {
            Check.sameDouble("nothing", 0.0, new SpiralWords().covered());
            Check.sameDouble("all", 1.0, one("abcdefghij", "0", 8, 80, 16).covered());
            SpiralWords x = one("ab", "0", 5, 60, 40);
            Check.sameDouble("100 of 2400", 100.0 / 2400.0, x.covered());
            x.setCanvas(79, 49);
            Check.sameDouble("100 of 3871", 100.0 / 3871.0, x.covered());
            x.setCanvas(34, 23);
            Check.sameDouble("72 of 782", 72.0 / 782.0, x.covered());
            x.setCanvas(10, 10);
            Check.sameDouble("none of 100", 0.0, x.covered());
            x.lay(false);
            Check.sameDouble("100 of 100", 1.0, x.covered());
        });
    }

    private static void spread() {
        Check.sentence("0 with fewer than two words with places", () -> {
            SpiralWords x = Check.cloudOf("a,1,00;abcdefghij,1,00;c,1,03;");
            Check.same("no places", 0, x.spread(0));
            x.setCanvas(30, 30);
            Check.same("lay", 2, x.lay(false));
            Check.noPlace("the second", x, 1);
            Check.same("one place of two words", 0, x.spread(0));
            Check.same("one word", 0, x.spread(3));
            Check.same("no word", 0, x.spread(1));
            Check.same("no word", 0, new SpiralWords().spread(0));
        });
        Check.sentence("the sum of the absolute differences of columns and of rows", () -> {
            SpiralWords x = Check.letters(24, "01");
            x.setWays(0, 4, 1);
            x.lay(false);
            // The points 0 to 23 of the spiral, in strides from the middle.
            int[][] steps = {{0, 0}, {1, 0}, {1, 1}, {0, 1}, {-1, 1}, {-1, 0}, {-1, -1}, {0, -1}, {1, -1}, {2, -1}};
            for (int one = 0; one < 10; one++) {
                for (int other = one + 1; other < 10; other++) {
                    x.setKind(one, 0, 2);
                    x.setKind(other, 0, 2);
                    int due = Math.abs(steps[one][0] - steps[other][0]) + Math.abs(steps[one][1] - steps[other][1]);
                    Check.same("spread of " + one + " and " + other, 4 * due, x.spread(2));
                    x.undo();
                    x.undo();
                }
            }
        });
        Check.sentence("the greatest distance of the points of the boxes of two of its words", () -> {
            SpiralWords x = Check.letters(24, "01");
            x.setWays(0, 4, 1);
            x.lay(false);
            // The 13th stands 2 strides to the right and below the middle, the 21st 2 to the left and above it.
            Check.same("24 words", 32, x.spread(1));
            x.remove(20);
            Check.same("without the 21st", 28, x.spread(1));
            x.setKind(12, 0, 3);
            Check.same("without the 13th, too: from (2, -1) to (-2, 2)", 28, x.spread(1));
            Check.same("the 13th alone", 0, x.spread(3));
            x.setKind(16, 0, 3);
            Check.same("without the 17th, too: from (2, 1) to (-2, -1)", 24, x.spread(1));
            Check.same("from (2, 2) to (-2, 2)", 16, x.spread(3));
        });
        Check.sentence("the points of the boxes (of odd widths and heights, too)", () -> {
            SpiralWords x = Check.cloudOf("abc,1,01;b,1,11;");
            x.setWays(0, 1, 1);
            x.setCanvas(20, 20);
            x.lay(false);
            Check.place("abc around (10, 10)", x, 0, 9, 9, 3, 2, 0);
            // Its box takes rows 9 and 10, so that (11, 11), the third point, is the first possible one.
            Check.place("b around (11, 11)", x, 1, 10, 11, 2, 1, 1);
            Check.same("spread(1)", 2, x.spread(1));
        });
        Check.sentence("spread: Throws IndexOutOfBoundsException if there is no such group", () -> {
            SpiralWords x = Check.cloudOf("a,1,00;b,1,03;");
            x.lay(false);
            for (int group = 0; group <= 3; group++) {
                Check.same("spread(" + group + ")", 0, x.spread(group));
            }
            for (int group : new int[] {-1, 4, 5, Integer.MIN_VALUE, Integer.MAX_VALUE}) {
                Check.refuses("spread(" + group + ")", x, Check.INDEX, () -> x.spread(group));
            }
        });
    }
}
