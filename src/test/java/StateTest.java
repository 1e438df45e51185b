/** Promises 24 and 25: undo and digest. */
public final class StateTest {
    public static void main(String[] args) {
        fourStatesAreSaved();
        undoLeavesTheText();
        undoBringsAllBack();
        onlyUndoableCallsSave();
        digestHashesAll();
        digestSeesEachPart();
        Check.end("StateTest");
    }

    private static void fourStatesAreSaved() {
        SpiralWords x = new SpiralWords();
        for (int columns = 11; columns <= 17; columns++) {
            x.setCanvas(columns, 10);
        }
        for (int rest = 3; rest >= 0; rest--) {
            Check.same("undo", rest, x.undo());
            Check.same("value(0)", 13 + rest, x.value(0));
        }
        Check.refuses("undo", x, Check.STATE, x::undo);
        x.setCanvas(20, 20);
        x.setCanvas(30, 30);
        Check.same("undo", 1, x.undo());
        x.setCanvas(40, 40);
        Check.same("undo", 1, x.undo());
        Check.same("value(0)", 20, x.value(0));
        Check.same("undo", 0, x.undo());
        Check.same("value(0)", 13, x.value(0));
    }

    private static void undoLeavesTheText() {
        SpiralWords x = new SpiralWords();
        x.setCanvas(20, 20);
        Check.write(x, "a,1,00;");
        x.undo();
        Check.same("clearText", 7, x.clearText());
        x.setCanvas(20, 20);
        x.undo();
        Check.same("clearText", 0, x.clearText());
    }

    private static void undoBringsAllBack() {
        SpiralWords x = Check.cloudOf("abc,9,20;de,3,11;fghi,1,02;");
        x.lay(false);
        x.setWays(1, 1, 6);
        x.lay(true);
        undoAfter("parse", x, x::parse);
        undoAfter("setWeight", x, () -> x.setWeight(1, 1000));
        undoAfter("setKind", x, () -> x.setKind(1, 2, 3));
        undoAfter("remove", x, () -> x.remove(0));
        undoAfter("setCanvas", x, () -> x.setCanvas(30, 31));
        undoAfter("setWays", x, () -> x.setWays(2, 3, 4));
        undoAfter("lay(true)", x, () -> x.lay(true));
        undoAfter("lay(false)", x, () -> x.lay(false));
        undoAfter("lay on another canvas", x, () -> {
            x.setCanvas(20, 20);
            x.undo();
            x.lay(false);
        });
    }

    private static void undoAfter(String name, SpiralWords x, Check.Call call) {
        // One saved state less, so that the number of saved states is the same again.
        x.undo();
        long before = x.digest();
        call.run();
        Check.that("the hash after " + name + " is another", before != x.digest());
        x.undo();
        Check.same("the hash after undo of " + name, before, x.digest());
        x.lay(true);
    }

    private static void onlyUndoableCallsSave() {
        SpiralWords x = Check.cloudOf("ab,1,00;");
        x.lay(false);
        x.undo();
        Check.Call[] calls = {() -> x.append('x'), x::clearText, () -> x.word(0, 0), () -> x.letter(0, 0),
            () -> x.value(0), () -> x.place(0, 0), () -> x.wordAt(0, 0), x::meetings, () -> x.extent(0), x::covered,
            () -> x.spread(0), () -> x.placedOn(10, 10, true), x::narrowest, () -> x.movedBy(0, 5), x::bestStride,
            x::digest};
        for (Check.Call call : calls) {
            call.run();
        }
        Check.same("undo of parse", 0, x.undo());
        Check.same("value(5)", 0, x.value(5));
    }

    private static long hashOf(int... values) {
        long hash = 3329;
        for (int value : values) {
            hash = 31 * hash + value;
        }
        return hash;
    }

    private static void digestHashesAll() {
        SpiralWords x = new SpiralWords();
        Check.same("digest of a new object", hashOf(0, 60, 40, 0, 2, 5, 0, 0, 0, 0, 0, -1, -1, -1, -1, 0), x.digest());
        Check.write(x, "ab,9,21;c,8,02;");
        x.parse();
        Check.same("digest of two words", hashOf(15, 60, 40, 0, 2, 5, 2, 0, 0,
            2, 9, 2, 1, 0, 5, 0, 1, -1, -1, -1, -1, -1, 1, 8, 0, 2, 1, 1, 2, -1, -1, -1, -1, -1,
            0, 0, -1, -1, -1, -1, 1), x.digest());
        x.remove(1);
        x.lay(false);
        x.setCanvas(30, 30);
        Check.same("digest of a place that is cut", hashOf(15, 30, 30, 0, 2, 5, 1, 1, 0,
            2, 9, 2, 1, 0, 5, 0, 1, 25, 15, 10, 10, 0, 0, 50, 25, 15, 34, 24, 4), x.digest());
        x.lay(true);
        Check.same("digest after a move", hashOf(15, 30, 30, 0, 2, 5, 1, 1, 1,
            2, 9, 2, 1, 0, 5, 0, 1, 10, 10, 10, 10, 0, 0, 100, 10, 10, 19, 19, 4), x.digest());
        x.clearText();
        x.undo();
        x.undo();
        Check.same("digest after undo", hashOf(0, 60, 40, 0, 2, 5, 1, 1, 0,
            2, 9, 2, 1, 0, 5, 0, 1, 25, 15, 10, 10, 0, 0, 100, 25, 15, 34, 24, 2), x.digest());
    }

    private static void digestSeesEachPart() {
        long one = Check.cloudOf("ab,9,21;").digest();
        for (String other : new String[] {"ac,9,21;", "ab,8,21;", "ab,9,11;", "ab,9,20;", "abc,9,21;"}) {
            Check.that("another hash of " + other, one != Check.cloudOf(other).digest());
        }
        Check.same("the same calls, the same hash", one, Check.cloudOf("ab,9,21;").digest());
    }
}
