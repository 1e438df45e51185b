/** Promises 15 to 19: wordAt, meetings, extent, covered and spread. */
public final class ViewTest {
    public static void main(String[] args) {
        anEmptyCloudCoversNothing();
        wordAtFindsBoxes();
        extentTellsSides();
        boxesBeyondTheCanvas();
        boxesNeverMeet();
        coveredDivides();
        spreadMeasures();
        wrongCallsAreRefused();
        Check.end("ViewTest");
    }

    private static void extents(String name, SpiralWords x, int... due) {
        for (int what = 0; what < due.length; what++) {
            Check.same(name + ": extent(" + what + ")", due[what], x.extent(what));
        }
    }

    private static void nothing(String name, SpiralWords x) {
        extents(name, x, 0, -1, -1, -1, -1);
        Check.same(name + ": meetings", 0, x.meetings());
        Check.sameDouble(name + ": covered", 0.0, x.covered());
        Check.same(name + ": spread", 0, x.spread(0));
        Check.same(name + ": wordAt", -1, x.wordAt(30, 20));
    }

    private static void anEmptyCloudCoversNothing() {
        nothing("a new object", new SpiralWords());
        SpiralWords x = Check.cloudOf("ab,1,00;cd,1,00;");
        nothing("before a laying", x);
        x.setCanvas(10, 10);
        x.setKind(0, 1, 0);
        x.setWays(0, 1, 8);
        x.lay(false);
        nothing("all left out", x);
    }

    /** Two words: "a" 8 wide and 16 high around (30, 20), "b" 1 wide and 2 high beside it. */
    private static SpiralWords twoWords() {
        SpiralWords x = Check.cloudOf("a,9,00;b,1,01;");
        x.setWays(0, 4, 8);
        x.lay(false);
        Check.place("a", x, 0, 26, 12, 8, 16, 0);
        // From (30, 20), the first point with the stride 4 beyond columns 26 to 33 is (34, 20).
        Check.place("b", x, 1, 34, 19, 1, 2, 0);
        return x;
    }

    private static void wordAtFindsBoxes() {
        SpiralWords x = twoWords();
        for (int column = 0; column < 80; column++) {
            x = column % 8 == 0 ? twoWords() : x; // an object is used for 512 calls
            for (int row = 0; row < 50; row++) {
                boolean a = column >= 26 && column <= 33 && row >= 12 && row <= 27;
                boolean b = column == 34 && row >= 19 && row <= 20;
                Check.same("wordAt(" + column + ", " + row + ")", a ? 0 : b ? 1 : -1, x.wordAt(column, row));
            }
        }
        x.remove(0);
        Check.same("wordAt after remove", 0, x.wordAt(34, 20));
        Check.same("wordAt after remove", -1, x.wordAt(33, 20));
    }

    private static void extentTellsSides() {
        SpiralWords x = twoWords();
        extents("two words", x, 8 * 16 + 2, 26, 12, 34, 27);
        x.setWeight(0, 1);
        extents("the boxes stay until the next laying", x, 8 * 16 + 2, 26, 12, 34, 27);
        x.remove(0);
        extents("one word", x, 2, 34, 19, 34, 20);
        SpiralWords row = Check.cloudOf("abcdefghij,1,00;");
        row.setCanvas(10, 10);
        row.setWays(0, 1, 1);
        row.lay(false);
        extents("two rows", row, 20, 0, 4, 9, 5);
        SpiralWords whole = Check.cloudOf("abcdefghij,1,00;");
        whole.setCanvas(80, 16);
        whole.setWays(0, 1, 8);
        whole.lay(false);
        extents("the whole canvas", whole, 1280, 0, 0, 79, 15);
        Check.sameDouble("the whole canvas", 1.0, whole.covered());
    }

    private static void boxesBeyondTheCanvas() {
        SpiralWords x = twoWords();
        x.setCanvas(28, 14);
        extents("cut by the canvas", x, 4, 26, 12, 34, 27);
        Check.sameDouble("covered", 4.0 / 392.0, x.covered());
        Check.same("wordAt beyond the canvas", 0, x.wordAt(33, 27));
        Check.same("wordAt beyond the canvas", 1, x.wordAt(34, 20));
        x.setCanvas(10, 10);
        extents("beyond the canvas", x, 0, 26, 12, 34, 27);
        Check.sameDouble("covered", 0.0, x.covered());
        x.setCanvas(80, 10);
        extents("below the canvas", x, 0, 26, 12, 34, 27);
        Check.same("wordAt at the corner", -1, x.wordAt(79, 49));
    }

    private static void boxesNeverMeet() {
        SpiralWords x = Check.letters(24, "20");
        x.setWays(0, 1, 4);
        x.lay(false);
        Check.same("meetings", 0, x.meetings());
        x.setWays(0, 1, 8);
        x.setCanvas(30, 30);
        Check.same("meetings before the laying that is due", 0, x.meetings());
        x.lay(true);
        Check.same("meetings", 0, x.meetings());
        // Words that touch without a margin cover the sum of their boxes.
        int cells = 0;
        for (int word = 0; word < 24; word++) {
            cells += x.place(word, 0) < 0 ? 0 : x.place(word, 2) * x.place(word, 3);
        }
        Check.same("extent(0)", cells, x.extent(0));
    }

    private static void coveredDivides() {
        SpiralWords x = twoWords();
        Check.sameDouble("covered", 130.0 / 2400.0, x.covered());
        x.setCanvas(79, 47);
        Check.sameDouble("covered", 130.0 / 3713.0, x.covered());
    }

    private static void spreadMeasures() {
        SpiralWords x = Check.letters(12, "00");
        x.setCanvas(20, 20);
        x.setWays(0, 3, 1);
        x.lay(false);
        // Points (10, 10), (13, 10), (13, 13), (10, 13), (7, 13), (7, 10), (7, 7), .., (16, 13).
        Check.same("from (7, 7) to (16, 13)", 15, x.spread(0));
        Check.same("an empty group", 0, x.spread(1));
        x.setKind(0, 0, 1);
        Check.same("one word", 0, x.spread(1));
        x.setKind(4, 0, 1);
        Check.same("from (10, 10) to (7, 13)", 6, x.spread(1));
        x.setKind(6, 0, 1);
        Check.same("from (7, 7) to (7, 13) or (10, 10)", 6, x.spread(1));
        x.setKind(8, 0, 1);
        Check.same("from (7, 13) to (13, 7)", 12, x.spread(1));
        Check.same("group 0", 12, x.spread(0));
        x.setKind(8, 0, 3);
        Check.same("group 3", 0, x.spread(3));
        x.setKind(6, 0, 2);
        x.setKind(7, 0, 2);
        Check.same("words with numbers side by side", 3, x.spread(2));
        SpiralWords full = Check.letters(24, "00");
        full.setWays(0, 4, 1);
        full.lay(false);
        // The 13th stands around (38, 28), the 21st around (22, 12).
        Check.same("24 words", 32, full.spread(0));
        SpiralWords left = Check.cloudOf("a,1,02;abcdefghij,1,02;");
        left.setCanvas(30, 30);
        left.lay(false);
        Check.same("a word without a place does not count", 0, left.spread(2));
    }

    private static void wrongCallsAreRefused() {
        SpiralWords x = twoWords();
        int far = Integer.MAX_VALUE;
        int near = Integer.MIN_VALUE;
        int[][] cells = {{-1, 0}, {80, 0}, {0, -1}, {0, 50}, {far, 0}, {0, far}, {near, 0}, {0, near}, {80, 50}};
        for (int[] cell : cells) {
            String name = "wordAt(" + cell[0] + ", " + cell[1] + ")";
            Check.refuses(name, x, Check.INDEX, () -> x.wordAt(cell[0], cell[1]));
        }
        for (int what : new int[] {-1, 5, far, near}) {
            Check.refuses("extent(" + what + ")", x, Check.ARGUMENT, () -> x.extent(what));
        }
        for (int group : new int[] {-1, 4, far, near}) {
            Check.refuses("spread(" + group + ")", x, Check.INDEX, () -> x.spread(group));
        }
    }
}
