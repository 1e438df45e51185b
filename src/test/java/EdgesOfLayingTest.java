/** The edges that the document names in 'Sizes' (boxes) and 'Laying' and in promises 13 and 14. */
public final class EdgesOfLayingTest {
    public static void main(String[] args) {
        boxes();
        onTheCanvas();
        margins();
        otherWords();
        keeping();
        theSpiral();
        groups();
        leftOut();
        moved();
        placesStay();
        lay();
        place();
        Check.end("EdgesOfLayingTest");
    }

    private static void boxes() {
        Check.sentence("n * s wide and 2 * s high if it stands flat", () -> {
            for (int n = 1; n <= 10; n++) {
                SpiralWords x = Check.cloudOf("abcdefghij".substring(0, n) + ",1,00;");
                x.setCanvas(80, 50);
                for (int s = 1; s <= 8; s++) {
                    x.setWays(0, 2, s);
                    x.lay(false);
                    Check.place("flat", x, 0, 40 - n * s / 2, 25 - s, n * s, 2 * s, 0);
                }
            }
        });
        Check.sentence("2 * s wide and n * s high if it stands upright", () -> {
            for (int n = 1; n <= 10; n++) {
                SpiralWords x = Check.cloudOf("abcdefghij".substring(0, n) + ",1,10;");
                x.setCanvas(80, 50);
                for (int s = 1; s * n <= 50 && s <= 8; s++) {
                    x.setWays(0, 2, s);
                    x.lay(false);
                    Check.place("upright", x, 0, 40 - s, 25 - n * s / 2, 2 * s, n * s, 1);
                }
            }
        });
        Check.sentence("has the left x - width / 2 and the top y - height / 2", () -> {
            SpiralWords x = Check.cloudOf("abc,1,00;");
            x.setCanvas(11, 13);
            x.setWays(0, 2, 3);
            x.lay(false);
            Check.place("an odd width around (5, 6)", x, 0, 1, 3, 9, 6, 0);
            x.setKind(0, 1, 0);
            x.lay(false);
            Check.place("an odd height around (5, 6)", x, 0, 2, 2, 6, 9, 1);
        });
        Check.sentence("The point of a box is (left + width / 2, top + height / 2).", () -> {
            SpiralWords x = Check.cloudOf("abc,1,00;");
            x.setCanvas(20, 20);
            x.setWays(0, 2, 1);
            x.lay(false);
            Check.place("3 wide around (10, 10)", x, 0, 9, 9, 3, 2, 0);
            x.setCanvas(30, 30);
            x.setWays(0, 2, 3);
            x.lay(true);
            Check.place("9 wide around (10, 10)", x, 0, 6, 7, 9, 6, 0);
            x.setWays(0, 2, 2);
            x.lay(true);
            Check.place("6 wide around (10, 10)", x, 0, 7, 8, 6, 4, 0);
            x.setKind(0, 1, 0);
            x.setCanvas(21, 21);
            x.lay(true);
            x.setWays(0, 2, 1);
            x.lay(true);
            Check.place("3 high around (10, 10)", x, 0, 9, 9, 2, 3, 1);
        });
        Check.sentence("if there is none, at (W / 2, H / 2)", () -> {
            SpiralWords x = Check.cloudOf("a,1,00;");
            x.setWays(0, 2, 1);
            int[][] canvases = {{10, 10}, {11, 11}, {79, 49}, {80, 50}, {10, 50}, {80, 10}, {45, 27}};
            for (int[] sides : canvases) {
                x.setCanvas(sides[0], sides[1]);
                x.lay(false);
                Check.place("the middle", x, 0, sides[0] / 2, sides[1] / 2 - 1, 1, 2, 0);
            }
        });
    }

    private static void fits(String text, int size, int columns, int rows, boolean due) {
        SpiralWords x = Check.cloudOf(text);
        x.setWays(3, 1, size);
        x.setCanvas(columns, rows);
        Check.same(text + " on " + columns + " x " + rows, due ? 1 : 0, x.lay(false));
        Check.same("place(0, 0)", due ? 0 : -1, Math.min(0, x.place(0, 0)));
    }

    private static void onTheCanvas() {
        Check.sentence("A box is possible if it lies on the canvas", () -> {
            fits("abcdefghij,1,00;", 8, 80, 16, true);
            fits("abcdefghij,1,00;", 8, 79, 16, false);
            fits("abcdefghij,1,00;", 8, 80, 15, false);
            fits("abcdef,1,10;", 8, 16, 48, true);
            fits("abcdef,1,10;", 8, 15, 48, false);
            fits("abcdef,1,10;", 8, 16, 47, false);
            fits("abcdefghij,1,10;", 5, 10, 50, true);
            fits("abcdefghij,1,10;", 5, 10, 49, false);
            fits("abcdefghij,1,00;", 1, 10, 10, true);
            fits("abcdefghi,1,00;", 3, 27, 11, true);
            fits("abcdefghi,1,00;", 3, 26, 11, false);
        });
        Check.sentence("on the canvas: the right side", () -> {
            SpiralWords x = Check.cloudOf("ab,1,00;");
            x.lay(false);
            x.setCanvas(35, 40);
            x.lay(true);
            Check.place("its last column is the canvas's", x, 0, 25, 15, 10, 10, 0);
            x.setCanvas(34, 40);
            x.lay(true);
            Check.place("a column too far", x, 0, 12, 15, 10, 10, 0);
        });
        Check.sentence("on the canvas: the lower side", () -> {
            SpiralWords x = Check.cloudOf("ab,1,00;");
            x.lay(false);
            x.setCanvas(60, 25);
            x.lay(true);
            Check.place("its last row is the canvas's", x, 0, 25, 15, 10, 10, 0);
            x.setCanvas(60, 24);
            x.lay(true);
            Check.place("a row too far", x, 0, 25, 7, 10, 10, 0);
        });
        Check.sentence("on the canvas: the left side", () -> {
            SpiralWords x = Check.cloudOf("ab,1,00;");
            x.setCanvas(10, 50);
            x.lay(false);
            x.setCanvas(80, 50);
            x.lay(true);
            Check.place("its first column is 0", x, 0, 0, 20, 10, 10, 0);
            x.setWays(0, 2, 6);
            x.lay(true);
            Check.place("a column too far", x, 0, 34, 19, 12, 12, 0);
        });
        Check.sentence("on the canvas: the upper side", () -> {
            SpiralWords x = Check.cloudOf("ab,1,00;");
            x.setCanvas(60, 10);
            x.lay(false);
            x.setCanvas(60, 50);
            x.lay(true);
            Check.place("its first row is 0", x, 0, 25, 0, 10, 10, 0);
            x.setWays(0, 2, 6);
            x.lay(true);
            Check.place("a row too far", x, 0, 24, 19, 12, 12, 0);
        });
    }

    /** "ab" around (5, 5) in group 0 and "cd" around this point in group 1; both boxes are 2 wide and 2 high. */
    private static SpiralWords pair(int column, int row) {
        SpiralWords x = new SpiralWords();
        x.setWays(0, 1, 1);
        Check.grow(x, "ab,1,00;", 10, 10);
        Check.grow(x, "ab,1,00;cd,1,01;", 2 * column, 2 * row);
        Check.place("ab", x, 0, 4, 4, 2, 2);
        Check.place("cd", x, 1, column - 1, row - 1, 2, 2);
        return x;
    }

    /** With this margin the word of the lower rank stays or moves, whichever of both it is. */
    private static void margin(int column, int row, int margin, boolean stays) {
        String name = "cd around (" + column + ", " + row + ") with the margin " + margin;
        for (int first = 0; first < 2; first++) {
            SpiralWords x = pair(column, row);
            x.setCanvas(40, 40);
            x.setWeight(first, 2);
            x.setWays(margin, 1, 1);
            int[] before = TextTest.placeOf(x, first);
            x.lay(true);
            Check.same(name, stays ? 0 : 1, x.value(7));
            Check.place(name + ", the first by rank", x, first, before);
        }
    }

    private static void margins() {
        Check.sentence("at least as many free columns as the margin tells lie between both boxes", () -> {
            for (int margin = 0; margin <= 3; margin++) {
                for (int free = 0; free <= 4; free++) {
                    margin(7 + free, 5, margin, free >= margin);
                    margin(7 + free, 6, margin, free >= margin);
                }
            }
        });
        Check.sentence("or at least as many free rows", () -> {
            for (int margin = 0; margin <= 3; margin++) {
                for (int free = 0; free <= 4; free++) {
                    margin(5, 7 + free, margin, free >= margin);
                    margin(6, 7 + free, margin, free >= margin);
                }
            }
        });
        Check.sentence("(they are side by side or one above the other", () -> {
            for (int margin = 0; margin <= 3; margin++) {
                for (int columns = 0; columns <= 3; columns++) {
                    for (int rows = 0; rows <= 3; rows++) {
                        margin(7 + columns, 7 + rows, margin, columns >= margin || rows >= margin);
                    }
                }
            }
        });
        Check.sentence("with the margin 0 they may touch)", () -> {
            SpiralWords x = Check.cloudOf("ab,1,10;cd,1,10;ef,1,10;");
            x.setCanvas(10, 30);
            x.setWays(0, 1, 5);
            Check.same("three boxes fill the canvas", 3, x.lay(false));
            Check.place("in the middle", x, 0, 0, 10, 10, 10, 1);
            Check.place("below it", x, 1, 0, 20, 10, 10, 1);
            Check.place("above it", x, 2, 0, 0, 10, 10, 1);
            Check.same("extent(0)", 300, x.extent(0));
            Check.same("meetings", 0, x.meetings());
            SpiralWords y = Check.cloudOf("ab,1,00;cd,1,00;ef,1,00;");
            y.setCanvas(30, 10);
            y.setWays(0, 1, 5);
            Check.same("three side by side", 3, y.lay(false));
            Check.place("to the right", y, 1, 20, 0, 10, 10, 0);
            Check.place("to the left", y, 2, 0, 0, 10, 10, 0);
            y.setWays(1, 1, 5);
            Check.same("not with the margin 1", 1, y.lay(false));
        });
        Check.sentence("the margin lies between boxes (and not at the canvas's sides)", () -> {
            SpiralWords x = Check.cloudOf("abcde,1,00;fghij,1,00;");
            x.setWays(3, 1, 2);
            x.setCanvas(10, 14);
            Check.same("one in the middle alone", 1, x.lay(false));
            x.setCanvas(10, 18);
            Check.same("two", 2, x.lay(false));
            Check.place("the first", x, 0, 0, 7, 10, 4, 0);
            Check.place("the second", x, 1, 0, 14, 10, 4, 0);
        });
    }

    private static void otherWords() {
        Check.sentence("All words are gone through by their ranks.", () -> {
            SpiralWords x = Check.cloudOf("a,1,00;b,2,00;c,2,00;");
            x.setCanvas(20, 20);
            x.setWays(0, 2, 1);
            x.lay(false);
            Check.place("the first by rank", x, 1, 10, 9, 1, 2, 0);
            Check.place("the second", x, 2, 12, 9, 1, 2, 0);
            Check.place("the third", x, 0, 12, 11, 1, 2, 0);
        });
        Check.sentence("for each word that has got a place by this laying (not for one that comes later)", () -> {
            SpiralWords x = pair(7, 5);
            x.setCanvas(10, 10);
            x.setWays(0, 1, 2);
            x.lay(true);
            Check.place("ab grows over the columns that cd had", x, 0, 3, 3, 4, 4, 0);
            Check.that("cd makes way", x.place(1, 0) != 6 || x.place(1, 1) != 4);
            SpiralWords y = pair(7, 5);
            y.setCanvas(14, 10);
            y.setWeight(0, 2);
            y.lay(false);
            Check.place("ab in the middle, where cd stood", y, 0, 6, 4, 2, 2, 0);
        });
        Check.sentence("for each word that has got a place by this laying (not for one that is left out)", () -> {
            SpiralWords x = Check.cloudOf("abcdefghij,2,00;b,1,00;");
            x.lay(false);
            Check.place("the great one", x, 0, 5, 15, 50, 10, 0);
            x.setCanvas(49, 40);
            Check.same("lay", 1, x.lay(false));
            Check.noPlace("the great one", x, 0);
            Check.place("the small one stands in the middle", x, 1, 24, 19, 1, 2, 0);
        });
    }

    private static void keeping() {
        Check.sentence("If places are kept, and the word had a place before", () -> {
            SpiralWords x = Check.cloudOf("ab,1,00;");
            x.setWays(0, 2, 1);
            x.lay(true);
            Check.place("a new word", x, 0, 29, 19, 2, 2, 0);
            x.setCanvas(20, 20);
            x.setWays(0, 2, 8);
            x.setKind(0, 0, 1);
            x.setCanvas(10, 10);
            Check.same("left out", 0, x.lay(true));
            x.setCanvas(40, 40);
            x.setWays(0, 2, 1);
            x.lay(true);
            Check.place("a word that was left out", x, 0, 19, 19, 2, 2, 0);
            x.setCanvas(60, 40);
            x.lay(true);
            Check.place("a word that has a place", x, 0, 19, 19, 2, 2, 0);
            x.lay(false);
            Check.place("places are not kept", x, 0, 29, 19, 2, 2, 0);
        });
        Check.sentence("with its present size", () -> {
            SpiralWords x = pair(9, 5);
            x.setCanvas(40, 40);
            x.setWays(0, 1, 2);
            x.lay(true);
            Check.place("ab", x, 0, 3, 3, 4, 4, 0);
            Check.place("cd", x, 1, 7, 3, 4, 4, 0);
            x.setWeight(0, 2);
            x.lay(true);
            Check.place("ab keeps its size", x, 0, 3, 3, 4, 4, 0);
            Check.place("cd has the size 1", x, 1, 8, 4, 2, 2, 0);
            Check.same("cd alone has moved", 1, x.value(7));
        });
        Check.sentence("if its direction allows that: upright not with 0", () -> {
            SpiralWords x = standing("abcd,1,10;");
            Check.place("upright", x, 0, 18, 16, 4, 8, 1);
            x.setKind(0, 0, 0);
            x.lay(true);
            Check.place("flat, in the middle", x, 0, 26, 18, 8, 4, 0);
        });
        Check.sentence("if its direction allows that: flat not with 1", () -> {
            SpiralWords x = standing("abcd,1,00;");
            Check.place("flat", x, 0, 16, 18, 8, 4, 0);
            x.setKind(0, 1, 0);
            x.lay(true);
            Check.place("upright, in the middle", x, 0, 28, 16, 4, 8, 1);
        });
        Check.sentence("standing as it stood (both with 2)", () -> {
            SpiralWords x = standing("abcd,1,10;");
            x.setKind(0, 2, 0);
            x.lay(true);
            Check.place("upright", x, 0, 18, 16, 4, 8, 1);
            SpiralWords y = standing("abcd,1,00;");
            y.setKind(0, 2, 0);
            y.lay(true);
            Check.place("flat", y, 0, 16, 18, 8, 4, 0);
        });
        Check.sentence("standing as it stood (flat with 0, upright with 1)", () -> {
            SpiralWords x = standing("abcd,1,10;");
            x.lay(true);
            Check.place("upright", x, 0, 18, 16, 4, 8, 1);
            SpiralWords y = standing("abcd,1,00;");
            y.lay(true);
            Check.place("flat", y, 0, 16, 18, 8, 4, 0);
        });
        Check.sentence("Otherwise, or if it is not possible: the points of a spiral", () -> {
            SpiralWords x = standing("abcd,1,20;");
            x.setCanvas(22, 40);
            x.lay(true);
            Check.place("not upright around the old point, where that is possible", x, 0, 7, 18, 8, 4, 0);
            SpiralWords y = pair(7, 5);
            y.setCanvas(20, 20);
            y.setWays(1, 1, 1);
            y.lay(true);
            Check.place("ab stays", y, 0, 4, 4, 2, 2, 0);
            Check.place("cd stood too near, and stands in the middle", y, 1, 9, 9, 2, 2, 0);
        });
    }

    /** A word of the size 2 that stands around (20, 20), while the middle is (30, 20). */
    private static SpiralWords standing(String text) {
        SpiralWords x = Check.cloudOf(text);
        x.setWays(0, 2, 2);
        x.setCanvas(40, 40);
        x.lay(false);
        x.setCanvas(60, 40);
        return x;
    }

    private static void theSpiral() {
        Check.sentence("1 stride to the right, 1 downward, 2 to the left, 2 upward, 3 to the right, 3 downward", () -> {
            int[][] steps = {{0, 0}, {1, 0}, {1, 1}, {0, 1}, {-1, 1}, {-1, 0}, {-1, -1}, {0, -1}, {1, -1}, {2, -1},
                {2, 0}, {2, 1}, {2, 2}, {1, 2}, {0, 2}, {-1, 2}, {-2, 2}, {-2, 1}, {-2, 0}, {-2, -1}, {-2, -2},
                {-1, -2}, {0, -2}, {1, -2}};
            for (int stride = 2; stride <= 4; stride++) {
                SpiralWords x = Check.letters(24, "00");
                x.setWays(0, stride, 1);
                Check.same("lay", 24, x.lay(false));
                for (int word = 0; word < 24; word++) {
                    Check.place("stride " + stride, x, word, 30 + stride * steps[word][0],
                        19 + stride * steps[word][1], 1, 2, 0);
                }
            }
        });
        Check.sentence("each point after a stride is tried (the stride 1)", () -> {
            SpiralWords x = Check.letters(7, "00");
            x.setCanvas(20, 20);
            x.setWays(0, 1, 1);
            x.lay(false);
            // Points (10, 10), (11, 10); (9, 11), (9, 9) on the second leg to the left and upward; (12, 9) at the end of
            // the third one to the right, (12, 11) on that downward; (11, 12) on the fourth one to the left.
            int[][] places = {{10, 9}, {11, 9}, {9, 10}, {9, 8}, {12, 8}, {12, 10}, {11, 11}};
            for (int word = 0; word < 7; word++) {
                Check.place("stride 1", x, word, places[word][0], places[word][1], 1, 2, 0);
            }
        });
        Check.sentence("at each point the flat box, if the direction is 0 or 2, then the upright one, if it is 1 or 2",
            () -> {
                // "a" covers the column that the flat box around (10, 10) needs, but not the upright one.
                SpiralWords x = new SpiralWords();
                x.setWays(0, 1, 1);
                Check.grow(x, "a,1,00;", 12, 20);
                Check.place("a", x, 0, 6, 9, 1, 2, 0);
                Check.grow(x, "a,1,00;bcdefghi,1,21;", 20, 20);
                Check.place("upright at the first point", x, 1, 9, 6, 2, 8, 1);
                x.setKind(1, 0, 1);
                x.lay(true);
                Check.place("flat at the second point", x, 1, 7, 9, 8, 2, 0);
                x.setKind(1, 2, 1);
                x.setCanvas(21, 30);
                x.remove(0);
                x.lay(false);
                Check.place("flat before upright", x, 0, 6, 14, 8, 2, 0);
            });
        Check.sentence("flat, if the direction is 0 or 2 (not 1)", () -> {
            fits("abcdef,1,00;", 5, 30, 10, true);
            fits("abcdef,1,20;", 5, 30, 10, true);
            fits("abcdef,1,10;", 5, 30, 10, false);
        });
        Check.sentence("upright, if it is 1 or 2 (not 0)", () -> {
            fits("abcdef,1,10;", 5, 10, 30, true);
            fits("abcdef,1,20;", 5, 10, 30, true);
            fits("abcdef,1,00;", 5, 10, 30, false);
        });
        Check.sentence("1500 points in all, the beginning, too, also those beyond the canvas", () -> {
            // Rows 2 to 38 are covered or too near, so that the second box must stand on rows 0 and 1, around row 1.
            // The spiral is there with its points 1483 (19 to the left of the middle) to 1500 (2 to the left).
            for (int letters = 1; letters <= 10; letters++) {
                lastPoint(letters, 0);
            }
        });
        Check.sentence("1500 points in all (as many, if two boxes are tried at each)", () -> {
            for (int letters = 2; letters <= 10; letters++) {
                lastPoint(letters, 2);
            }
        });
        Check.sentence("the first possible box is taken (as soon as there is one)", () -> {
            SpiralWords x = Check.cloudOf("a,1,00;b,1,01;");
            x.setWays(0, 4, 8);
            x.setCanvas(80, 16);
            x.lay(false);
            Check.place("b: the first column to the right that is a multiple of the stride away", x, 1, 44, 0, 8, 16, 0);
        });
    }

    private static void lastPoint(int letters, int direction) {
        SpiralWords x = Check.cloudOf("abcdefg,1000,10;" + "bcdefghijk".substring(0, letters) + ",1," + direction + "0;");
        x.setCanvas(10, 40);
        x.setWays(1, 1, 5);
        Check.same("point 1500 and " + letters + " letters", letters <= 7 ? 2 : 1, x.lay(false));
        Check.place("the great one", x, 0, 0, 3, 10, 35, 1);
        if (letters <= 7) {
            Check.place("the small one", x, 1, 0, 0, letters, 2, 0);
        } else {
            Check.noPlace("the small one", x, 1);
        }
    }

    private static void groups() {
        Check.sentence("begins at the point of the first word by rank of the same group", () -> {
            SpiralWords x = Check.cloudOf("a,9,01;b,8,01;c,7,00;d,6,02;e,5,00;f,4,00;");
            x.setCanvas(40, 20);
            x.setWays(0, 4, 1);
            x.lay(false);
            int[][] places = {{20, 9}, {24, 9}, {24, 13}, {20, 13}, {28, 13}, {28, 17}};
            for (int word = 0; word < 6; word++) {
                Check.place("", x, word, places[word][0], places[word][1], 1, 2, 0);
            }
        });
        Check.sentence("the first word by rank (not by its number)", () -> {
            SpiralWords x = Check.cloudOf("a,5,01;b,9,01;c,1,01;");
            x.setCanvas(40, 20);
            x.setWays(0, 4, 1);
            x.lay(false);
            Check.place("b in the middle", x, 1, 20, 9, 1, 2, 0);
            Check.place("a begins at b", x, 0, 24, 9, 1, 2, 0);
            Check.place("c begins at b", x, 2, 24, 13, 1, 2, 0);
        });
        Check.sentence("the groups 0 to 3", () -> {
            for (int group = 0; group <= 3; group++) {
                SpiralWords x = Check.cloudOf("a,1,0" + group + ";b,1,0" + (3 - group) + ";c,1,0" + group + ";d,1,0"
                    + (3 - group) + ";");
                x.setCanvas(40, 40);
                x.setWays(0, 4, 1);
                x.lay(false);
                Check.place("c begins at a", x, 2, 24, 23, 1, 2, 0);
                Check.place("d begins at b", x, 3, 28, 19, 1, 2, 0);
            }
        });
        Check.sentence("that has got a place by this laying (not one that is left out)", () -> {
            SpiralWords x = Check.cloudOf("abcdefghij,9,01;b,1,01;c,1,01;");
            x.setWays(0, 4, 5);
            x.setCanvas(80, 20);
            x.lay(false);
            Check.place("the great one", x, 0, 15, 5, 50, 10, 0);
            x.setCanvas(40, 40);
            x.lay(false);
            Check.noPlace("the great one", x, 0);
            Check.place("b begins in the middle", x, 1, 20, 19, 1, 2, 0);
            Check.place("c begins at b", x, 2, 24, 19, 1, 2, 0);
        });
        Check.sentence("that has got a place by this laying (not one that comes later)", () -> {
            SpiralWords x = pair(15, 15);
            x.setKind(1, 0, 0);
            x.setCanvas(20, 40);
            x.lay(false);
            Check.place("ab begins in the middle, not at cd", x, 0, 9, 19, 2, 2, 0);
        });
        Check.sentence("the point that it has got by this laying (not its old one)", () -> {
            SpiralWords x = Check.cloudOf("a,2,01;b,2,01;");
            x.setWays(0, 4, 1);
            x.setCanvas(80, 40);
            x.lay(false);
            x.setCanvas(20, 20);
            x.lay(true);
            Check.place("a", x, 0, 10, 9, 1, 2, 0);
            Check.place("b", x, 1, 14, 9, 1, 2, 0);
        });
        Check.sentence("the point of a word that is kept", () -> {
            SpiralWords x = new SpiralWords();
            x.setWays(0, 4, 1);
            Check.grow(x, "a,2,01;", 20, 20);
            Check.grow(x, "a,2,01;b,2,01;c,2,02;", 60, 40);
            Check.place("a stays", x, 0, 10, 9, 1, 2, 0);
            Check.place("b begins at a", x, 1, 14, 9, 1, 2, 0);
            Check.place("c begins in the middle", x, 2, 30, 19, 1, 2, 0);
        });
    }

    private static void leftOut() {
        Check.sentence("If no box is found, the word has no place (it is left out).", () -> {
            SpiralWords x = Check.cloudOf("ab,1,00;cd,1,00;");
            x.lay(false);
            x.setCanvas(10, 10);
            Check.same("lay, places kept", 1, x.lay(true));
            Check.place("the first", x, 0, 0, 0, 10, 10, 0);
            Check.noPlace("the second", x, 1);
            x.setCanvas(60, 40);
            Check.same("lay, places kept", 2, x.lay(true));
            Check.place("the first stays", x, 0, 0, 0, 10, 10, 0);
            Check.place("the second begins at it, as it has no old place", x, 1, 10, 0, 10, 10, 0);
        });
        Check.sentence("a word of a lower rank may have a place, where one is left out", () -> {
            SpiralWords x = Check.cloudOf("abcdefghij,9,00;b,1,00;abcdefghik,9,00;c,1,00;");
            x.setCanvas(10, 10);
            Check.same("lay", 2, x.lay(false));
            Check.noPlace("the first", x, 0);
            Check.noPlace("the third", x, 2);
            Check.place("the second", x, 1, 5, 4, 1, 2, 0);
        });
    }

    private static SpiralWords laid(String text, int size, int columns, int rows) {
        SpiralWords x = Check.cloudOf(text);
        x.setWays(0, 2, size);
        x.setCanvas(columns, rows);
        x.lay(false);
        return x;
    }

    private static void movedTo(String name, SpiralWords x, int size, int columns, int rows, int moved, int... place) {
        x.setWays(0, 2, size);
        x.setCanvas(columns, rows);
        x.lay(false);
        Check.place(name, x, 0, place);
        Check.same(name + ": value(7)", moved, x.value(7));
    }

    private static void moved() {
        Check.sentence("another left", () -> {
            SpiralWords x = laid("ab,1,00;", 5, 60, 40);
            Check.place("before", x, 0, 25, 15, 10, 10, 0);
            movedTo("after", x, 5, 61, 40, 0, 25, 15, 10, 10, 0);
            movedTo("after", x, 5, 62, 40, 1, 26, 15, 10, 10, 0);
        });
        Check.sentence("another top", () -> {
            SpiralWords x = laid("ab,1,00;", 5, 60, 40);
            movedTo("after", x, 5, 60, 41, 0, 25, 15, 10, 10, 0);
            movedTo("after", x, 5, 60, 42, 1, 25, 16, 10, 10, 0);
        });
        Check.sentence("another width", () -> {
            SpiralWords x = laid("a,1,00;", 1, 10, 10);
            Check.place("before", x, 0, 5, 4, 1, 2, 0);
            x.setKind(0, 1, 0);
            movedTo("after", x, 2, 14, 10, 1, 5, 4, 4, 2, 1);
        });
        Check.sentence("another height", () -> {
            SpiralWords x = laid("a,1,10;", 1, 10, 10);
            Check.place("before", x, 0, 4, 5, 2, 1, 1);
            x.setKind(0, 0, 0);
            movedTo("after", x, 2, 10, 14, 1, 4, 5, 2, 4, 0);
        });
        Check.sentence("(another left, top, width or height; standing otherwise in the same box is none of them)", () -> {
            SpiralWords x = laid("ab,1,00;", 5, 60, 40);
            x.setKind(0, 1, 0);
            movedTo("after", x, 5, 60, 40, 0, 25, 15, 10, 10, 1);
        });
        Check.sentence("or none", () -> {
            SpiralWords x = laid("ab,1,00;", 5, 60, 40);
            movedTo("after", x, 8, 15, 40, 1, -1, -1, -1, -1, -1);
            movedTo("a word without a place has not moved", x, 8, 15, 40, 0, -1, -1, -1, -1, -1);
        });
        Check.sentence("those that had a place before", () -> {
            SpiralWords x = laid("ab,1,00;", 8, 15, 40);
            Check.noPlace("before", x, 0);
            movedTo("a word without a place has not moved", x, 5, 60, 40, 0, 25, 15, 10, 10, 0);
            Check.write(x, "c,1,01;ab,1,00;");
            x.parse();
            x.setWays(0, 2, 4);
            x.lay(true);
            Check.same("a new word has not moved, the other has another size", 1, x.value(7));
        });
        Check.sentence("the number of words that have moved", () -> {
            SpiralWords x = Check.letters(24, "00");
            x.setWays(0, 2, 1);
            x.lay(false);
            x.setCanvas(62, 42);
            x.lay(false);
            Check.same("all", 24, x.value(7));
            x.lay(false);
            Check.same("none", 0, x.value(7));
        });
    }

    /** The place of the word "abc" stays through this change; the next laying gives it another. */
    private static void stays(String name, java.util.function.Consumer<SpiralWords> change) {
        SpiralWords x = Check.cloudOf("abc,5,20;de,5,01;f,3,02;");
        x.lay(false);
        int[] before = TextTest.placeOf(x, 0);
        Check.place("before", x, 0, 23, 15, 15, 10, 0);
        change.accept(x);
        Check.place(name, x, 0, before);
        x.lay(false);
        boolean same = true;
        for (int what = 0; what < 5; what++) {
            same &= before[what] == x.place(0, what);
        }
        Check.that("another place after " + name, !same);
    }

    private static void placesStay() {
        Check.sentence("When words or weights are altered, the places stay as they are until the next laying", () -> {
            stays("setWeight", x -> x.setWeight(0, 4));
            stays("setWeight of another word", x -> x.setWeight(1, 1000));
            stays("setKind", x -> x.setKind(0, 1, 0));
            stays("setCanvas", x -> x.setCanvas(30, 30));
            stays("setCanvas beyond the box", x -> x.setCanvas(10, 10));
            stays("setWays", x -> x.setWays(0, 2, 8));
            stays("parse", x -> {
                Check.write(x, "abc,1,13;z,2,00;");
                x.parse();
            });
            stays("questions", x -> {
                x.placedOn(20, 20, false);
                x.narrowest();
                x.movedBy(0, 1);
                x.bestStride();
                x.setCanvas(80, 50);
            });
        });
        Check.sentence("the places stay as they are (of those behind a word that is removed)", () -> {
            SpiralWords x = Check.cloudOf("abc,5,20;de,5,01;f,3,02;");
            x.lay(false);
            int[] de = TextTest.placeOf(x, 1);
            int[] f = TextTest.placeOf(x, 2);
            x.remove(0);
            Check.place("de", x, 0, de);
            Check.place("f", x, 1, f);
        });
        Check.sentence("a word that is added has none", () -> {
            SpiralWords x = Check.cloudOf("abc,5,20;");
            x.lay(false);
            Check.write(x, "b,5,20;abc,5,20;c,5,20;");
            x.parse();
            Check.noPlace("the first", x, 0);
            Check.noPlace("the third", x, 2);
            Check.same("value(6)", 1, x.value(6));
        });
    }

    private static void lay() {
        Check.sentence("lay: Returns the number of words that have a place.", () -> {
            Check.same("no words", 0, new SpiralWords().lay(false));
            Check.same("no words, places kept", 0, new SpiralWords().lay(true));
            SpiralWords x = Check.letters(24, "10");
            x.setCanvas(10, 15);
            x.setWays(0, 1, 5);
            Check.same("three of 24, one above the other", 3, x.lay(false));
            Check.same("value(6)", 3, x.value(6));
            x.setWays(0, 1, 1);
            Check.same("all of 24", 24, x.lay(false));
            Check.same("value(6)", 24, x.value(6));
            x.setWays(0, 1, 8);
            Check.same("none of 24", 0, x.lay(true));
            Check.same("value(6)", 0, x.value(6));
        });
    }

    private static void place() {
        Check.sentence("Returns that value; NONE if it has no place.", () -> {
            SpiralWords x = Check.cloudOf("abcdefghij,1,10;b,1,00;");
            x.setWays(0, 2, 8);
            Check.noPlace("before a laying", x, 0);
            Check.noPlace("before a laying", x, 1);
            x.lay(false);
            Check.noPlace("left out", x, 0);
            Check.place("laid", x, 1, 26, 12, 8, 16, 0);
        });
        Check.sentence("place: Throws IllegalArgumentException if what is out of range", () -> {
            SpiralWords x = Check.cloudOf("a,1,00;");
            for (int pass = 0; pass < 2; pass++) {
                for (int what : new int[] {-1, 5, 6, Integer.MIN_VALUE, Integer.MAX_VALUE}) {
                    Check.refuses("place(0, " + what + ")", x, Check.ARGUMENT, () -> x.place(0, what));
                }
                x.lay(false);
            }
        });
        Check.sentence("place: Throws IndexOutOfBoundsException if there is no such word", () -> {
            SpiralWords x = Check.cloudOf("a,1,00;b,1,00;");
            x.lay(false);
            for (int word : new int[] {-1, 2, 3, 24, Integer.MIN_VALUE, Integer.MAX_VALUE}) {
                Check.refuses("place(" + word + ", 0)", x, Check.INDEX, () -> x.place(word, 0));
            }
            SpiralWords none = new SpiralWords();
            Check.refuses("place(0, 0) of none", none, Check.INDEX, () -> none.place(0, 0));
            x.remove(0);
            Check.refuses("place(1, 0) after remove", x, Check.INDEX, () -> x.place(1, 0));
        });
        Check.sentence("place: the exception that is listed first", () -> {
            SpiralWords x = Check.cloudOf("a,1,00;");
            Check.refuses("place(1, 5)", x, Check.INDEX, () -> x.place(1, 5));
            Check.refuses("place(-1, -1)", x, Check.INDEX, () -> x.place(-1, -1));
        });
    }
}
