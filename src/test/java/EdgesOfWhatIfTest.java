/** The edges that the document names in promises 20 to 23, a test for each sentence. */
public final class EdgesOfWhatIfTest {
    public static void main(String[] args) {
        placedOn();
        narrowest();
        movedBy();
        bestStride();
        Check.end("EdgesOfWhatIfTest");
    }

    private static SpiralWords cloud(String text, int margin, int stride, int size) {
        SpiralWords x = Check.cloudOf(text);
        x.setWays(margin, stride, size);
        return x;
    }

    private static void placedOn() {
        Check.sentence("placedOn: columns: 10 to 80", () -> {
            SpiralWords x = cloud("abcdefghij,1,00;", 0, 1, 8);
            Check.asks("80 columns", x, 1, () -> x.placedOn(80, 40, false));
            Check.asks("79 columns", x, 0, () -> x.placedOn(79, 40, false));
            SpiralWords y = cloud("abcdefghij,1,00;", 0, 1, 1);
            Check.asks("10 columns", y, 1, () -> y.placedOn(10, 40, false));
            Check.asks("10 columns, places kept", y, 1, () -> y.placedOn(10, 40, true));
        });
        Check.sentence("placedOn: rows: 10 to 50", () -> {
            SpiralWords x = cloud("abcdefghij,1,10;", 0, 1, 5);
            Check.asks("50 rows", x, 1, () -> x.placedOn(60, 50, false));
            Check.asks("49 rows", x, 0, () -> x.placedOn(60, 49, false));
            SpiralWords y = cloud("abcdefghij,1,10;", 0, 1, 1);
            Check.asks("10 rows", y, 1, () -> y.placedOn(60, 10, false));
        });
        Check.sentence("placedOn: Throws IllegalArgumentException if columns or rows is out of range", () -> {
            SpiralWords x = cloud("ab,1,00;", 0, 1, 5);
            x.lay(false);
            for (int columns : new int[] {9, 81, 0, -10, Integer.MIN_VALUE, Integer.MAX_VALUE}) {
                Check.refuses(columns + " columns", x, Check.ARGUMENT, () -> x.placedOn(columns, 40, true));
                Check.refuses(columns + " columns", x, Check.ARGUMENT, () -> x.placedOn(columns, 40, false));
            }
            for (int rows : new int[] {9, 51, 0, -10, 80, Integer.MIN_VALUE, Integer.MAX_VALUE}) {
                Check.refuses(rows + " rows", x, Check.ARGUMENT, () -> x.placedOn(60, rows, true));
                Check.refuses(rows + " rows", x, Check.ARGUMENT, () -> x.placedOn(60, rows, false));
            }
        });
        Check.sentence("placedOn: keep: whether places are kept", () -> {
            SpiralWords x = Check.letters(3, "00");
            x.setWays(0, 1, 5);
            x.setCanvas(15, 10);
            x.lay(false);
            x.remove(1);
            Check.asks("kept", x, 2, () -> x.placedOn(10, 10, true));
            Check.asks("not kept", x, 1, () -> x.placedOn(10, 10, false));
        });
        Check.sentence("how many words would have a place after a laying on another canvas", () -> {
            Check.same("no words", 0, new SpiralWords().placedOn(80, 50, true));
            SpiralWords x = Check.letters(24, "00");
            x.setWays(0, 2, 8);
            // Three in a row, and no row above or below has 16 free rows.
            Check.asks("none", x, 0, () -> x.placedOn(80, 10, false));
            Check.asks("one", x, 1, () -> x.placedOn(10, 16, false));
            Check.asks("three", x, 3, () -> x.placedOn(24, 16, false));
            x.setWays(0, 2, 1);
            Check.asks("all", x, 24, () -> x.placedOn(80, 50, false));
            Check.same("it has no place yet", 0, x.value(6));
            x.lay(false);
            x.setCanvas(10, 10);
            Check.asks("on a wider canvas than the present one", x, 24, () -> x.placedOn(80, 50, true));
            Check.same("the present one stays", 10, x.value(0));
        });
    }

    private static void narrowest(String text, int size, int rows, int due) {
        SpiralWords x = cloud(text, 0, 2, size);
        x.setCanvas(60, rows);
        Check.asks("narrowest of " + text + " with the size " + size + " on " + rows + " rows", x, due, x::narrowest);
    }

    private static void narrowest() {
        Check.sentence("one of 10, 15, 20, .., 80", () -> {
            for (int size = 1; size <= 8; size++) {
                for (int n = 1; n <= 10; n++) {
                    int due = Math.max(10, (n * size + 4) / 5 * 5);
                    narrowest("abcdefghij".substring(0, n) + ",1,00;", size, 40, due);
                }
            }
        });
        Check.sentence("NONE if there is none", () -> {
            narrowest("abcdefghij,1,10;", 8, 50, -1);
            narrowest("ab,1,00;", 6, 11, -1);
            narrowest("ab,1,00;", 6, 12, 15);
            narrowest("abcdefghij,9,10;b,1,00;", 6, 50, -1);
            narrowest("b,1,00;abcdefghij,9,10;", 6, 50, -1);
            SpiralWords x = Check.letters(24, "00");
            x.setWays(0, 4, 8);
            Check.asks("24 words", x, -1, x::narrowest);
        });
        Check.sentence("with the present number of rows", () -> {
            narrowest("abcdefghij,1,20;", 5, 50, 10);
            narrowest("abcdefghij,1,20;", 5, 49, 50);
            narrowest("abcdefghij,1,10;", 1, 10, 10);
            narrowest("abcdefghij,1,10;", 2, 19, -1);
        });
        Check.sentence("on which all words would have a place", () -> {
            narrowest("abcdefghij,9,00;b,1,00;c,1,00;", 3, 40, 30);
            // "a" is as high as the canvas and 5 wide, and "b" needs a column beside it.
            narrowest("a,9,00;b,1,00;", 5, 10, 10);
            Check.same("no words", 10, new SpiralWords().narrowest());
            SpiralWords x = cloud("a,1,00;b,1,00;c,1,00;", 0, 1, 5);
            x.setCanvas(80, 10);
            Check.asks("three words beside each other", x, 15, x::narrowest);
        });
        Check.sentence("after a laying without keeping places", () -> {
            SpiralWords x = Check.letters(3, "00");
            x.setWays(0, 1, 5);
            x.setCanvas(15, 10);
            x.lay(false);
            x.remove(1);
            Check.asks("places kept", x, 2, () -> x.placedOn(10, 10, true));
            Check.asks("narrowest", x, 15, x::narrowest);
        });
        Check.sentence("the narrowest canvas, whichever is the present one", () -> {
            SpiralWords x = cloud("abcd,1,00;", 0, 1, 5);
            for (int columns : new int[] {10, 19, 20, 21, 80}) {
                x.setCanvas(columns, 40);
                Check.asks("from " + columns, x, 20, x::narrowest);
            }
        });
    }

    private static void movedBy() {
        Check.sentence("movedBy: weight: 1 to 1000", () -> {
            SpiralWords x = cloud("ab,9,00;cd,8,01;", 0, 2, 5);
            x.lay(false);
            Check.asks("1", x, 2, () -> x.movedBy(0, 1));
            Check.asks("1000", x, 0, () -> x.movedBy(0, 1000));
            Check.asks("1 for the smaller one", x, 0, () -> x.movedBy(1, 1));
            Check.asks("1000 for the smaller one", x, 2, () -> x.movedBy(1, 1000));
        });
        Check.sentence("movedBy: Throws IllegalArgumentException if weight is out of range", () -> {
            SpiralWords x = cloud("ab,9,00;cd,8,01;", 0, 2, 5);
            x.lay(false);
            for (int weight : new int[] {0, 1001, -1, Integer.MIN_VALUE, Integer.MAX_VALUE}) {
                Check.refuses("movedBy(0, " + weight + ")", x, Check.ARGUMENT, () -> x.movedBy(0, weight));
                Check.refuses("movedBy(1, " + weight + ")", x, Check.ARGUMENT, () -> x.movedBy(1, weight));
            }
        });
        Check.sentence("movedBy: Throws IndexOutOfBoundsException if there is no such word", () -> {
            SpiralWords x = cloud("ab,9,00;cd,8,01;", 0, 2, 5);
            SpiralWords none = new SpiralWords();
            for (int word : new int[] {-1, 2, 3, 24, Integer.MIN_VALUE, Integer.MAX_VALUE}) {
                Check.refuses("movedBy(" + word + ", 1)", x, Check.INDEX, () -> x.movedBy(word, 1));
                Check.refuses("movedBy(" + word + ", 1) of none", none, Check.INDEX, () -> none.movedBy(word, 1));
            }
            Check.refuses("movedBy(0, 1) of none", none, Check.INDEX, () -> none.movedBy(0, 1));
        });
        Check.sentence("movedBy: the exception that is listed first", () -> {
            SpiralWords x = cloud("ab,9,00;cd,8,01;", 0, 2, 5);
            for (int weight : new int[] {0, 1001, -1}) {
                Check.refuses("movedBy(2, " + weight + ")", x, Check.INDEX, () -> x.movedBy(2, weight));
                Check.refuses("movedBy(-1, " + weight + ")", x, Check.INDEX, () -> x.movedBy(-1, weight));
            }
        });
        Check.sentence("by a laying with places kept", () -> {
            SpiralWords x = cloud("ab,9,00;cd,9,01;", 0, 2, 5);
            x.lay(false);
            x.setCanvas(70, 50);
            Check.asks("the same weight, on another canvas", x, 0, () -> x.movedBy(0, 9));
            x.lay(false);
            Check.same("without keeping them", 2, x.value(7));
        });
        Check.sentence("how many words would move: none that has no place", () -> {
            SpiralWords x = cloud("ab,9,00;cd,9,01;", 0, 2, 5);
            Check.asks("before a laying", x, 0, () -> x.movedBy(0, 1));
            x.lay(false);
            x.setWays(0, 2, 8);
            Check.asks("both grow", x, 2, () -> x.movedBy(0, 9));
            x.setCanvas(10, 10);
            Check.asks("both are left out", x, 2, () -> x.movedBy(0, 9));
            x.lay(true);
            Check.same("the latest laying's number is another one", 2, x.value(7));
            Check.asks("none has a place", x, 0, () -> x.movedBy(0, 9));
        });
    }

    private static void bestStride() {
        Check.sentence("of several the smallest one", () -> {
            Check.same("no words", 1, new SpiralWords().bestStride());
            for (int stride = 1; stride <= 4; stride++) {
                SpiralWords x = cloud("a,1,00;b,1,00;", 0, stride, 5);
                Check.asks("all strides place both", x, 1, x::bestStride);
                x.setWays(0, stride, 8);
                x.setCanvas(10, 10);
                Check.asks("no stride places one", x, 1, x::bestStride);
            }
        });
        Check.sentence("the stride with which the most words would have a place", () -> {
            SpiralWords x = Check.letters(8, "00");
            x.setCanvas(80, 10);
            x.setWays(0, 1, 5);
            Check.asks("the stride 1 reaches seven words", x, 2, x::bestStride);
            x.remove(7);
            Check.asks("seven words", x, 1, x::bestStride);
            SpiralWords y = cloud("abcdefghij,1,00;bbb,1,01;cc,1,01;", 0, 1, 5);
            y.setCanvas(79, 10);
            Check.asks("the stride 4", y, 4, y::bestStride);
            SpiralWords z = cloud("abc,1,00;d,1,00;", 0, 4, 5);
            z.setCanvas(20, 10);
            // "abc" stands in columns 3 to 17; no stride finds five columns beside it.
            Check.asks("one word with each stride", z, 1, z::bestStride);
        });
        Check.sentence("bestStride: after a laying without keeping places", () -> {
            SpiralWords x = cloud("abcdefghij,1,00;bbb,1,01;cc,1,01;", 0, 4, 5);
            x.setCanvas(79, 10);
            Check.same("lay with the stride 4", 3, x.lay(false));
            for (int stride = 1; stride <= 4; stride++) {
                x.setWays(0, stride, 5);
                Check.same("with any stride all places can be kept", 3, x.placedOn(79, 10, true));
                Check.asks("the stride 4 alone finds them", x, 4, x::bestStride);
            }
        });
    }
}
