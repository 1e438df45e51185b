/** Promises 1, 8, 9 and 12: a new object, setCanvas, setWays and value. */
public final class CanvasTest {
    public static void main(String[] args) {
        aNewObjectIsEmpty();
        setCanvasSets();
        setWaysSets();
        valueCounts();
        wrongCallsAreRefused();
        Check.end("CanvasTest");
    }

    private static void values(String name, SpiralWords x, int... due) {
        for (int what = 0; what < due.length; what++) {
            Check.same(name + ": value(" + what + ")", due[what], x.value(what));
        }
    }

    private static void aNewObjectIsEmpty() {
        SpiralWords x = new SpiralWords();
        values("a new object", x, 60, 40, 0, 2, 5, 0, 0, 0);
        Check.refuses("undo", x, Check.STATE, x::undo);
        Check.same("clearText", 0, x.clearText());
        Check.same("NONE", -1, SpiralWords.NONE);
    }

    private static void setCanvasSets() {
        SpiralWords x = Check.cloudOf("ab,1,00;");
        x.lay(false);
        Check.same("setCanvas", 60, x.setCanvas(10, 50));
        Check.same("setCanvas", 10, x.setCanvas(80, 10));
        values("setCanvas(80, 10)", x, 80, 10, 0, 2, 5, 1, 1, 0);
        Check.place("the place stays", x, 0, 25, 15, 10, 10, 0);
        Check.same("setCanvas", 80, x.setCanvas(80, 10));
        Check.same("undo of no change", 3, x.undo());
        Check.same("undo", 2, x.undo());
        values("after undo", x, 10, 50);
        Check.same("undo", 1, x.undo());
        values("after undo", x, 60, 40);
    }

    private static void setWaysSets() {
        SpiralWords x = Check.cloudOf("ab,1,00;");
        x.lay(false);
        Check.same("setWays", 0, x.setWays(3, 4, 8));
        Check.same("setWays", 3, x.setWays(1, 1, 1));
        values("setWays(1, 1, 1)", x, 60, 40, 1, 1, 1, 1, 1, 0);
        Check.place("the place stays", x, 0, 25, 15, 10, 10, 0);
        Check.same("undo", 3, x.undo());
        values("after undo", x, 60, 40, 3, 4, 8);
        Check.same("undo", 2, x.undo());
        values("after undo", x, 60, 40, 0, 2, 5);
    }

    private static void valueCounts() {
        SpiralWords x = Check.cloudOf("ab,1,00;abcdefghij,1,10;");
        x.setWays(0, 2, 8);
        Check.same("lay", 1, x.lay(false));
        values("one is left out", x, 60, 40, 0, 2, 8, 2, 1, 0);
        x.setCanvas(20, 20);
        x.lay(false);
        values("one has moved", x, 20, 20, 0, 2, 8, 2, 1, 1);
        x.lay(false);
        values("none has moved", x, 20, 20, 0, 2, 8, 2, 1, 0);
        x.undo();
        values("undo brings the number back", x, 20, 20, 0, 2, 8, 2, 1, 1);
        x.setWeight(0, 2);
        x.remove(0);
        values("it stays until the next laying", x, 20, 20, 0, 2, 8, 1, 0, 1);
    }

    private static void wrongCallsAreRefused() {
        SpiralWords x = new SpiralWords();
        int far = Integer.MAX_VALUE;
        int[][] canvases = {{9, 10}, {81, 10}, {10, 9}, {10, 51}, {-10, 10}, {10, -10}, {far, 10}, {10, far}};
        for (int[] sides : canvases) {
            String row = "(" + sides[0] + ", " + sides[1] + ")";
            Check.refuses("setCanvas" + row, x, Check.ARGUMENT, () -> x.setCanvas(sides[0], sides[1]));
        }
        int[][] ways = {{-1, 1, 1}, {4, 1, 1}, {0, 0, 1}, {0, 5, 1}, {0, 1, 0}, {0, 1, 9}, {far, 1, 1}, {0, far, 1}};
        for (int[] row : ways) {
            String name = "setWays(" + row[0] + ", " + row[1] + ", " + row[2] + ")";
            Check.refuses(name, x, Check.ARGUMENT, () -> x.setWays(row[0], row[1], row[2]));
        }
        for (int what : new int[] {-1, 8, Integer.MIN_VALUE, far}) {
            Check.refuses("value(" + what + ")", x, Check.ARGUMENT, () -> x.value(what));
        }
        values("after refusals", x, 60, 40, 0, 2, 5, 0, 0, 0);
    }
}
