/** The edges that the document names in 'Canvas' and in promises 1, 8, 9 and 12, a test for each sentence. */
public final class EdgesOfCanvasTest {
    private static final int[] OUTSIDE_SIDES = {0, 1, -10, -80, 100, Integer.MIN_VALUE, Integer.MAX_VALUE};

    public static void main(String[] args) {
        beginning();
        setCanvas();
        setWays();
        value();
        Check.end("EdgesOfCanvasTest");
    }

    private static void values(SpiralWords x, int... due) {
        for (int what = 0; what < due.length; what++) {
            Check.same("value(" + what + ")", due[what], x.value(what));
        }
    }

    private static void beginning() {
        Check.sentence("Creates a cloud without words", () -> {
            SpiralWords x = new SpiralWords();
            Check.same("value(5)", 0, x.value(5));
            Check.same("value(6)", 0, x.value(6));
            Check.refuses("word(0, 0)", x, Check.INDEX, () -> x.word(0, 0));
            Check.same("clearText", 0, x.clearText());
            Check.refuses("undo", x, Check.STATE, x::undo);
        });
        Check.sentence("with the initial canvas", () -> values(new SpiralWords(), 60, 40, 0, 2, 5));
        Check.sentence("objects have nothing in common", () -> {
            SpiralWords x = Check.cloudOf("a,1,00;");
            x.setCanvas(10, 10);
            x.setWays(3, 4, 8);
            x.lay(false);
            SpiralWords y = new SpiralWords();
            values(y, 60, 40, 0, 2, 5, 0, 0, 0);
            y.append(97);
            values(x, 10, 10, 3, 4, 8, 1, 0, 0);
            Check.same("the text", 7, x.clearText());
            Check.same("undo", 3, x.undo());
            Check.refuses("undo of the other", y, Check.STATE, y::undo);
        });
        Check.sentence("NONE = -1", () -> Check.same("NONE", -1, SpiralWords.NONE));
    }

    private static void setCanvas() {
        Check.sentence("The canvas has W columns, 10 to 80", () -> {
            SpiralWords x = new SpiralWords();
            int before = 60;
            for (int columns = 10; columns <= 80; columns++) {
                Check.same("setCanvas(" + columns + ", 40)", before, x.setCanvas(columns, 40));
                Check.same("value(0)", columns, x.value(0));
                before = columns;
            }
        });
        Check.sentence("H rows, 10 to 50", () -> {
            SpiralWords x = new SpiralWords();
            for (int rows = 10; rows <= 50; rows++) {
                Check.same("setCanvas(60, " + rows + ")", 60, x.setCanvas(60, rows));
                Check.same("value(1)", rows, x.value(1));
            }
        });
        Check.sentence("setCanvas: Throws IllegalArgumentException if columns is out of range", () -> {
            SpiralWords x = new SpiralWords();
            Check.refuses("9 columns", x, Check.ARGUMENT, () -> x.setCanvas(9, 10));
            Check.refuses("81 columns", x, Check.ARGUMENT, () -> x.setCanvas(81, 50));
            for (int columns : OUTSIDE_SIDES) {
                Check.refuses(columns + " columns", x, Check.ARGUMENT, () -> x.setCanvas(columns, 40));
                Check.refuses(columns + " columns and rows", x, Check.ARGUMENT, () -> x.setCanvas(columns, columns));
            }
        });
        Check.sentence("setCanvas: Throws IllegalArgumentException if rows is out of range", () -> {
            SpiralWords x = new SpiralWords();
            Check.refuses("9 rows", x, Check.ARGUMENT, () -> x.setCanvas(10, 9));
            Check.refuses("51 rows", x, Check.ARGUMENT, () -> x.setCanvas(80, 51));
            Check.refuses("80 rows", x, Check.ARGUMENT, () -> x.setCanvas(80, 80));
            for (int rows : OUTSIDE_SIDES) {
                Check.refuses(rows + " rows", x, Check.ARGUMENT, () -> x.setCanvas(60, rows));
            }
        });
        Check.sentence("Returns the previous number of columns.", () -> {
            SpiralWords x = new SpiralWords();
            Check.same("of the first call", 60, x.setCanvas(10, 50));
            Check.same("of the second", 10, x.setCanvas(10, 10));
            Check.same("of one that changes nothing", 10, x.setCanvas(10, 10));
            x.setCanvas(80, 20);
            x.undo();
            Check.same("after an undo", 10, x.setCanvas(70, 20));
        });
    }

    private static void setWays() {
        Check.sentence("The margin is 0 to 3, initially 0", () -> {
            SpiralWords x = new SpiralWords();
            int before = 0;
            for (int margin = 0; margin <= 3; margin++) {
                Check.same("setWays", before, x.setWays(margin, 2, 5));
                Check.same("value(2)", margin, x.value(2));
                before = margin;
            }
        });
        Check.sentence("the stride is 1 to 4, initially 2", () -> {
            SpiralWords x = new SpiralWords();
            Check.same("value(3)", 2, x.value(3));
            for (int stride = 1; stride <= 4; stride++) {
                x.setWays(0, stride, 5);
                Check.same("value(3)", stride, x.value(3));
            }
        });
        Check.sentence("the greatest size is 1 to 8, initially 5", () -> {
            SpiralWords x = new SpiralWords();
            Check.same("value(4)", 5, x.value(4));
            for (int size = 1; size <= 8; size++) {
                x.setWays(0, 2, size);
                Check.same("value(4)", size, x.value(4));
            }
        });
        Check.sentence("setWays: Throws IllegalArgumentException if an argument is out of range", () -> {
            SpiralWords x = new SpiralWords();
            for (int margin : new int[] {-1, 4, Integer.MIN_VALUE, Integer.MAX_VALUE}) {
                Check.refuses("the margin " + margin, x, Check.ARGUMENT, () -> x.setWays(margin, 2, 5));
            }
            for (int stride : new int[] {-1, 0, 5, Integer.MIN_VALUE, Integer.MAX_VALUE}) {
                Check.refuses("the stride " + stride, x, Check.ARGUMENT, () -> x.setWays(0, stride, 5));
            }
            for (int size : new int[] {-1, 0, 9, Integer.MIN_VALUE, Integer.MAX_VALUE}) {
                Check.refuses("the size " + size, x, Check.ARGUMENT, () -> x.setWays(0, 2, size));
            }
            Check.refuses("all of them", x, Check.ARGUMENT, () -> x.setWays(4, 5, 9));
        });
        Check.sentence("Returns the previous margin.", () -> {
            SpiralWords x = new SpiralWords();
            Check.same("of the first call", 0, x.setWays(3, 1, 1));
            Check.same("of the second", 3, x.setWays(2, 4, 8));
            x.undo();
            Check.same("after an undo", 3, x.setWays(0, 4, 8));
        });
    }

    private static void value() {
        Check.sentence("value: what: 0 .. 7", () -> {
            SpiralWords x = Check.cloudOf("a,1,00;abcdefghij,1,00;");
            x.setCanvas(20, 30);
            x.setWays(1, 3, 4);
            x.lay(false);
            values(x, 20, 30, 1, 3, 4, 2, 1, 0);
            x.setWays(0, 4, 2);
            x.lay(false);
            values(x, 20, 30, 0, 4, 2, 2, 2, 1);
        });
        Check.sentence("value: Throws IllegalArgumentException if what is out of range", () -> {
            SpiralWords x = new SpiralWords();
            for (int what : new int[] {-1, 8, 9, Integer.MIN_VALUE, Integer.MAX_VALUE}) {
                Check.refuses("value(" + what + ")", x, Check.ARGUMENT, () -> x.value(what));
            }
        });
        Check.sentence("how many words moved by the latest laying (0 before the first one)", () -> {
            SpiralWords x = Check.cloudOf("a,1,00;b,1,00;");
            Check.same("before the first", 0, x.value(7));
            x.lay(false);
            Check.same("by the first", 0, x.value(7));
            x.setCanvas(20, 20);
            x.lay(false);
            Check.same("by the second", 2, x.value(7));
            x.setWeight(0, 2);
            x.setKind(0, 1, 1);
            x.parse();
            x.remove(0);
            x.setWays(0, 1, 1);
            x.setCanvas(30, 30);
            Check.same("until the next one", 2, x.value(7));
            x.lay(true);
            Check.same("by the third", 1, x.value(7));
            x.lay(true);
            Check.same("by the latest", 0, x.value(7));
        });
        Check.sentence("the number of words with a place", () -> {
            SpiralWords x = Check.letters(24, "00");
            Check.same("before a laying", 0, x.value(6));
            x.lay(false);
            Check.same("all", 24, x.value(6));
            x.remove(3);
            Check.same("after remove", 23, x.value(6));
            Check.write(x, "zz,1,00;b,1,00;");
            x.parse();
            Check.same("after parse", 1, x.value(6));
        });
    }
}
