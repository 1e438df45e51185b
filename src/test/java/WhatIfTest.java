/** Promises 20 to 23: placedOn, narrowest, movedBy and bestStride. */
public final class WhatIfTest {
    public static void main(String[] args) {
        placedOnCounts();
        placedOnKeepsPlaces();
        narrowestFinds();
        narrowestKeepsNoPlaces();
        movedByCounts();
        bestStrideFinds();
        strideFourCanBeTheBest();
        emptyCloudsAnswer();
        wrongCallsAreRefused();
        Check.end("WhatIfTest");
    }

    private static void placedOnCounts() {
        SpiralWords x = Check.letters(8, "00");
        x.setWays(0, 1, 5);
        Check.asks("placedOn(80, 10)", x, 7, () -> x.placedOn(80, 10, false));
        Check.asks("placedOn(10, 10)", x, 1, () -> x.placedOn(10, 10, false));
        Check.asks("placedOn(14, 10)", x, 2, () -> x.placedOn(14, 10, false));
        Check.asks("placedOn(15, 10)", x, 3, () -> x.placedOn(15, 10, false));
        // One in the middle, two above it and two below; the next ones would be 20 strides away.
        Check.asks("placedOn(10, 50)", x, 5, () -> x.placedOn(10, 50, false));
        Check.same("it is not undoable", 1, x.undo());
    }

    private static void placedOnKeepsPlaces() {
        SpiralWords x = Check.cloudOf("a,2,00;b,1,00;");
        x.setWays(0, 1, 5);
        x.setCanvas(10, 10);
        x.lay(false);
        Check.place("around (5, 5)", x, 0, 3, 0, 5, 10, 0);
        Check.same("b", 1, x.place(1, 2));
        x.setWeight(1, 2);
        // Kept, "a" stands in columns 3 to 7; five free columns are beside it from the 13th column on.
        Check.asks("kept", x, 1, () -> x.placedOn(12, 10, true));
        Check.asks("freely", x, 1, () -> x.placedOn(13, 10, false));
        Check.asks("kept, on a wider canvas", x, 2, () -> x.placedOn(13, 10, true));
    }

    private static void narrowestFinds() {
        narrowest("abcdefghij,1,00;", 1, 10);
        narrowest("abcdefghij,1,00;", 2, 20);
        narrowest("abcdefg,1,00;", 6, 45);
        narrowest("abcdefghi,1,00;", 5, 45);
        narrowest("abcdefghij,1,00;", 8, 80);
        narrowest("abcdefghij,1,10;", 8, -1);
        narrowest("abcdefghij,1,10;", 4, 10);
        narrowest("abcdefghij,1,20;", 4, 10);
        narrowest("abcdefghij,1,20;", 5, 50);
        SpiralWords x = Check.cloudOf("abcdefghij,1,10;");
        x.setCanvas(20, 50);
        Check.asks("the present number of rows", x, 10, x::narrowest);
        x.setCanvas(80, 49);
        Check.asks("a row less", x, -1, x::narrowest);
        x.setCanvas(60, 10);
        x.setKind(0, 2, 0);
        Check.asks("flat on ten rows", x, 50, x::narrowest);
        SpiralWords y = Check.letters(8, "00");
        y.setWays(0, 1, 5);
        y.setCanvas(80, 10);
        Check.asks("the spiral ends before the eighth on each canvas", y, -1, y::narrowest);
    }

    private static void narrowest(String text, int size, int due) {
        SpiralWords x = Check.cloudOf(text);
        x.setWays(0, 2, size);
        Check.asks("narrowest of " + text + " with the size " + size, x, due, x::narrowest);
        if (due != SpiralWords.NONE) {
            Check.same("placedOn it", 1, x.placedOn(due, 40, false));
            Check.same("placedOn a narrower one", 0, due == 10 ? 0 : x.placedOn(due - 5, 40, false));
        }
    }

    private static void narrowestKeepsNoPlaces() {
        SpiralWords x = Check.letters(3, "00");
        x.setWays(0, 1, 5);
        x.setCanvas(15, 10);
        Check.same("three words", 3, x.lay(false));
        x.remove(1);
        Check.place("the first", x, 0, 5, 0, 5, 10, 0);
        Check.place("the third", x, 1, 0, 0, 5, 10, 0);
        Check.asks("kept", x, 2, () -> x.placedOn(10, 10, true));
        Check.asks("not kept", x, 1, () -> x.placedOn(10, 10, false));
        Check.asks("narrowest", x, 15, x::narrowest);
    }

    private static void movedByCounts() {
        SpiralWords x = Check.cloudOf("ab,10,00;cd,5,11;ef,1,22;gh,7,00;");
        x.lay(false);
        for (int word = 0; word < 4; word++) {
            for (int weight : new int[] {1, 5, 6, 10, 11, 500, 1000}) {
                int asked = word;
                int former = x.word(word, 1);
                x.setWeight(word, weight);
                x.lay(true);
                int due = x.value(7);
                x.undo();
                x.undo();
                Check.same("the weight is back", former, x.word(word, 1));
                Check.asks("movedBy(" + word + ", " + weight + ")", x, due, () -> x.movedBy(asked, weight));
            }
        }
        Check.asks("the same weight", x, 0, () -> x.movedBy(0, 10));
        SpiralWords y = Check.cloudOf("ab,9,00;c,8,00;");
        Check.asks("words without a place do not move", y, 0, () -> y.movedBy(0, 1));
        y.lay(false);
        Check.asks("both change their sizes", y, 2, () -> y.movedBy(0, 7));
        Check.asks("the greater one keeps its size", y, 0, () -> y.movedBy(0, 1000));
    }

    private static void bestStrideFinds() {
        SpiralWords x = Check.letters(7, "00");
        x.setCanvas(80, 10);
        x.setWays(0, 4, 5);
        // Upright words 5 wide, as high as the canvas, in one row: the stride 1 has an end after seven,
        // 2 and 3 put them 6 columns apart (13 words), 4 puts them 8 apart (9 words).
        Check.asks("seven words", x, 1, x::bestStride);
        SpiralWords y = Check.letters(8, "00");
        y.setCanvas(80, 10);
        y.setWays(0, 4, 5);
        Check.asks("eight words", y, 2, y::bestStride);
        SpiralWords z = Check.letters(24, "00");
        z.setCanvas(80, 10);
        z.setWays(3, 1, 5);
        // With the margin 3 the words are 8 or 9 columns apart.
        int[] placed = new int[5];
        int most = 0;
        for (int stride = 1; stride <= 4; stride++) {
            z.setWays(3, stride, 5);
            placed[stride] = z.placedOn(80, 10, false);
            most = placed[stride] > placed[most] ? stride : most;
        }
        int due = most;
        Check.asks("24 words", z, due, z::bestStride);
        Check.same("words with the stride 1", 5, placed[1]);
        Check.same("words with the stride 2", 9, placed[2]);
        Check.same("words with the stride 3", 9, placed[3]);
        Check.same("words with the stride 4", 9, placed[4]);
    }

    private static void strideFourCanBeTheBest() {
        SpiralWords x = Check.cloudOf("abcdefghij,1,00;bbb,1,01;cc,1,01;");
        x.setCanvas(79, 10);
        // The first covers columns 14 to 63. The second fits behind it alone, around column 71, 32 to the right of the
        // middle. The third fits before it, around columns 5 to 9, of which 64 to the left of 71 is one; where the
        // second is left out, the third goes behind the first.
        int[] placed = {1, 2, 2, 3};
        for (int stride = 1; stride <= 4; stride++) {
            x.setWays(0, stride, 5);
            Check.same("lay with the stride " + stride, placed[stride - 1], x.lay(false));
        }
        Check.asks("the stride 4", x, 4, x::bestStride);
        x.setWays(0, 1, 5);
        Check.asks("the stride 4, whichever is set", x, 4, x::bestStride);
        x.setCanvas(80, 50);
        Check.asks("the stride 1 on a wide canvas", x, 1, x::bestStride);
    }

    private static void emptyCloudsAnswer() {
        SpiralWords x = new SpiralWords();
        Check.asks("placedOn", x, 0, () -> x.placedOn(10, 10, false));
        Check.asks("placedOn", x, 0, () -> x.placedOn(80, 50, true));
        Check.asks("narrowest", x, 10, x::narrowest);
        Check.asks("bestStride", x, 1, x::bestStride);
        SpiralWords y = Check.cloudOf("abcdefghij,1,10;");
        y.setCanvas(10, 10);
        Check.asks("bestStride without a place", y, 1, y::bestStride);
    }

    private static void wrongCallsAreRefused() {
        SpiralWords x = Check.cloudOf("ab,9,00;c,8,00;");
        x.lay(false);
        int far = Integer.MAX_VALUE;
        int near = Integer.MIN_VALUE;
        int[][] canvases = {{9, 10}, {81, 10}, {10, 9}, {10, 51}, {far, 10}, {10, far}, {near, 10}, {10, near}};
        for (int[] sides : canvases) {
            String name = "placedOn(" + sides[0] + ", " + sides[1] + ")";
            Check.refuses(name, x, Check.ARGUMENT, () -> x.placedOn(sides[0], sides[1], true));
        }
        for (int word : new int[] {-1, 2, far, near}) {
            Check.refuses("movedBy(" + word + ", 1)", x, Check.INDEX, () -> x.movedBy(word, 1));
            Check.refuses("movedBy(" + word + ", 0)", x, Check.INDEX, () -> x.movedBy(word, 0));
        }
        for (int weight : new int[] {-1, 0, 1001, far, near}) {
            Check.refuses("movedBy(0, " + weight + ")", x, Check.ARGUMENT, () -> x.movedBy(0, weight));
        }
    }
}
