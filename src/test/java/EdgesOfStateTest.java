import java.util.function.Consumer;

/** The edges that the document names in 'Undo' and 'Exceptions' and in promises 24 and 25, and an object's 512 calls. */
public final class EdgesOfStateTest {
    private static final String TEXT = "abc,9,20;de,3,11;fghi,1,02;";

    public static void main(String[] args) {
        savedStates();
        unchangedStates();
        restoredStates();
        refusedCalls();
        digest();
        fiveHundredAndTwelveCalls();
        Check.end("EdgesOfStateTest");
    }

    private static void savedStates() {
        Check.sentence("at most 4 states are saved", () -> {
            SpiralWords x = new SpiralWords();
            for (int saved = 1; saved <= 3; saved++) {
                x.setCanvas(10 + saved, 10);
            }
            Check.same("undo of three", 2, x.undo());
            x.setCanvas(20, 10);
            x.setCanvas(21, 10);
            Check.same("undo of four", 3, x.undo());
            x.setCanvas(22, 10);
            x.setCanvas(23, 10);
            Check.same("undo of five", 3, x.undo());
            for (int i = 0; i < 300; i++) {
                x.lay(false);
            }
            Check.same("undo of three hundred", 3, x.undo());
        });
        Check.sentence("and the oldest is dropped first", () -> {
            for (int calls = 1; calls <= 12; calls++) {
                SpiralWords x = new SpiralWords();
                for (int call = 1; call <= calls; call++) {
                    x.setCanvas(10 + call, 20);
                }
                int left = Math.min(4, calls);
                for (int call = calls - 1; left > 0; call--) {
                    left--;
                    Check.same("undo", left, x.undo());
                    Check.same("value(0)", call == 0 ? 60 : 10 + call, x.value(0));
                }
                Check.refuses("undo of none", x, Check.STATE, x::undo);
            }
        });
        Check.sentence("undo: Throws IllegalStateException if there is no saved state", () -> {
            SpiralWords x = new SpiralWords();
            Check.refuses("of a new object", x, Check.STATE, x::undo);
            x.setWays(1, 1, 1);
            Check.same("undo", 0, x.undo());
            Check.refuses("once more", x, Check.STATE, x::undo);
            Check.refuses("and again", x, Check.STATE, x::undo);
            x.lay(true);
            Check.same("undo", 0, x.undo());
        });
        Check.sentence("Each successful call of a method whose description says \"undoable\" (and no other one)", () -> {
            SpiralWords x = Check.cloudOf("ab,1,00;");
            x.lay(false);
            x.append('x');
            x.clearText();
            x.word(0, 0);
            x.letter(0, 0);
            x.value(0);
            x.place(0, 0);
            x.wordAt(30, 20);
            x.meetings();
            x.extent(0);
            x.covered();
            x.spread(0);
            x.placedOn(10, 10, true);
            x.narrowest();
            x.movedBy(0, 5);
            x.bestStride();
            x.digest();
            Check.same("undo of lay", 1, x.undo());
            Check.same("undo of parse", 0, x.undo());
        });
        Check.sentence("undo is not undoable itself", () -> {
            SpiralWords x = new SpiralWords();
            x.setCanvas(20, 20);
            x.setCanvas(30, 30);
            x.undo();
            x.undo();
            Check.same("value(0)", 60, x.value(0));
            Check.refuses("undo", x, Check.STATE, x::undo);
        });
    }

    /** This call saves a state, though it changes nothing. */
    private static void savesUnchanged(String name, Consumer<SpiralWords> call) {
        Check.sentence("saves the state from before the call, even if the call changes nothing: " + name, () -> {
            SpiralWords x = Check.cloudOf(TEXT);
            x.lay(false);
            x.undo();
            x.undo();
            x.parse();
            x.lay(false);
            x.lay(false);
            Check.same("saved states before", 2, x.undo());
            long before = x.digest();
            call.accept(x);
            Check.same("saved states after, but one", 2, x.undo());
            Check.same("the hash", before, x.digest());
            Check.same("and those before", 1, x.undo());
            Check.same("no word has a place", 0, x.value(6));
        });
    }

    private static void unchangedStates() {
        savesUnchanged("parse", SpiralWords::parse);
        savesUnchanged("setWeight", x -> x.setWeight(1, 3));
        savesUnchanged("setKind", x -> x.setKind(1, 1, 1));
        savesUnchanged("setCanvas", x -> x.setCanvas(60, 40));
        savesUnchanged("setWays", x -> x.setWays(0, 2, 5));
        savesUnchanged("lay", x -> x.lay(false));
        savesUnchanged("lay, places kept", x -> x.lay(true));
    }

    /** This call is undone whole: all answers are again those from before it. */
    private static void isUndone(String name, Consumer<SpiralWords> call) {
        Check.sentence("The saved state contains everything except the word text: " + name, () -> {
            SpiralWords x = Check.cloudOf(TEXT);
            x.setWays(1, 3, 4);
            x.lay(false);
            x.setCanvas(50, 30);
            x.lay(true);
            x.setCanvas(40, 31);
            Check.write(x, "z,9,20;abc,3,11;");
            x.undo();
            String before = answers(x);
            call.accept(x);
            Check.that("the call changes something", !before.equals(answers(x)));
            x.undo();
            Check.that("the answers are " + before + " again, not " + answers(x) + "; this", before.equals(answers(x)));
        });
    }

    private static String answers(SpiralWords x) {
        StringBuilder answers = new StringBuilder();
        for (int what = 0; what < 8; what++) {
            answers.append(x.value(what)).append(' ');
        }
        int words = x.value(5);
        for (int word = 0; word < words; word++) {
            for (int what = 0; what < 6; what++) {
                answers.append(x.word(word, what)).append(' ');
            }
            int letters = x.word(word, 0);
            for (int index = 0; index < letters; index++) {
                answers.append(x.letter(word, index)).append(' ');
            }
            for (int what = 0; what < 5; what++) {
                answers.append(x.place(word, what)).append(' ');
            }
        }
        return answers.toString();
    }

    private static void restoredStates() {
        isUndone("parse", SpiralWords::parse);
        isUndone("parse of no words", x -> {
            x.clearText();
            x.parse();
        });
        isUndone("setWeight", x -> x.setWeight(0, 2));
        isUndone("setKind", x -> x.setKind(2, 1, 3));
        isUndone("remove of the first", x -> x.remove(0));
        isUndone("remove of the last", x -> x.remove(2));
        isUndone("setCanvas", x -> x.setCanvas(80, 50));
        isUndone("setWays", x -> x.setWays(0, 1, 8));
        isUndone("lay", x -> x.lay(false));
        Check.sentence("everything except the word text: the number of moved words", () -> {
            SpiralWords x = Check.cloudOf("ab,1,00;");
            x.lay(false);
            x.setCanvas(20, 20);
            x.lay(false);
            Check.same("value(7)", 1, x.value(7));
            x.lay(false);
            Check.same("value(7)", 0, x.value(7));
            x.undo();
            Check.same("value(7) after undo", 1, x.value(7));
            x.undo();
            Check.same("value(7) after undo", 0, x.value(7));
        });
        Check.sentence("everything except the word text: the text", () -> {
            SpiralWords x = new SpiralWords();
            x.setCanvas(20, 20);
            Check.write(x, "a,1,00;b,1,00");
            x.undo();
            Check.same("the text is there", 14, x.append(';'));
            Check.same("parse", 2, x.parse());
            x.clearText();
            x.undo();
            Check.same("the text is empty", 0, x.clearText());
        });
        Check.sentence("saved states are not touched by later calls", () -> {
            SpiralWords x = Check.cloudOf(TEXT);
            x.lay(false);
            String[] before = new String[4];
            x.setCanvas(70, 45);
            before[0] = answers(x);
            x.setWeight(0, 1);
            before[1] = answers(x);
            x.lay(true);
            before[2] = answers(x);
            x.remove(1);
            before[3] = answers(x);
            x.setKind(0, 1, 3);
            x.placedOn(10, 10, false);
            x.narrowest();
            x.movedBy(0, 500);
            x.bestStride();
            for (int left = 3; left >= 0; left--) {
                Check.same("undo", left, x.undo());
                Check.that("the answers are those from before; this", before[left].equals(answers(x)));
            }
        });
    }

    /** An object whose refused calls and questions in between change nothing that any later call could tell. */
    private static void leavesAll(String name, Consumer<SpiralWords> call) {
        SpiralWords x = begun();
        SpiralWords twin = begun();
        try {
            call.accept(x);
        } catch (RuntimeException e) {
            // A refused call; which exception it throws is told by other tests.
        }
        Check.same(name + ", then digest", twin.digest(), x.digest());
        Check.same(name + ", then parse", twin.parse(), x.parse());
        Check.same(name + ", then lay", twin.lay(true), x.lay(true));
        for (int undone = 0; undone < 4; undone++) {
            Check.that(name + ", then the answers; this", answers(twin).equals(answers(x)));
            Check.same(name + ", then undo", twin.undo(), x.undo());
        }
        Check.that(name + ", then the answers; this", answers(twin).equals(answers(x)));
        Check.same(name + ", then append", twin.append(97), x.append(97));
        Check.same(name + ", then parse", twin.parse(), x.parse());
    }

    private static SpiralWords begun() {
        SpiralWords x = Check.cloudOf(TEXT);
        x.lay(false);
        x.setWays(1, 1, 6);
        x.lay(true);
        x.setWeight(2, 8);
        Check.write(x, "de,3,11;z,1000,22;");
        return x;
    }

    private static void refusedCalls() {
        Check.sentence("A call that throws an exception changes nothing.", () -> {
            leavesAll("append(-1)", x -> x.append(-1));
            leavesAll("append(128)", x -> x.append(128));
            leavesAll("setWeight(3, 1)", x -> x.setWeight(3, 1));
            leavesAll("setWeight(-1, 1)", x -> x.setWeight(-1, 1));
            leavesAll("setWeight(0, 0)", x -> x.setWeight(0, 0));
            leavesAll("setWeight(0, 1001)", x -> x.setWeight(0, 1001));
            leavesAll("setKind(3, 0, 0)", x -> x.setKind(3, 0, 0));
            leavesAll("setKind(0, 3, 1)", x -> x.setKind(0, 3, 1));
            leavesAll("setKind(0, 1, 4)", x -> x.setKind(0, 1, 4));
            leavesAll("remove(3)", x -> x.remove(3));
            leavesAll("remove(-1)", x -> x.remove(-1));
            leavesAll("setCanvas(9, 20)", x -> x.setCanvas(9, 20));
            leavesAll("setCanvas(20, 51)", x -> x.setCanvas(20, 51));
            leavesAll("setWays(4, 2, 2)", x -> x.setWays(4, 2, 2));
            leavesAll("setWays(2, 0, 2)", x -> x.setWays(2, 0, 2));
            leavesAll("setWays(2, 2, 9)", x -> x.setWays(2, 2, 9));
            leavesAll("word(0, 6)", x -> x.word(0, 6));
            leavesAll("letter(0, 3)", x -> x.letter(0, 3));
            leavesAll("value(8)", x -> x.value(8));
            leavesAll("place(0, 5)", x -> x.place(0, 5));
            leavesAll("wordAt(80, 0)", x -> x.wordAt(80, 0));
            leavesAll("extent(5)", x -> x.extent(5));
            leavesAll("spread(4)", x -> x.spread(4));
            leavesAll("placedOn(20, 9, true)", x -> x.placedOn(20, 9, true));
            leavesAll("movedBy(3, 1)", x -> x.movedBy(3, 1));
            leavesAll("movedBy(0, 1001)", x -> x.movedBy(0, 1001));
        });
        Check.sentence("A call that throws an exception changes nothing: append to 200 bytes", () -> {
            SpiralWords x = new SpiralWords();
            Check.write(x, "a,1,00;".repeat(28) + "b,1,");
            Check.refuses("append", x, Check.STATE, () -> x.append('0'));
            Check.same("parse", -17, x.parse());
            Check.same("clearText", 200, x.clearText());
        });
        Check.sentence("A call that throws an exception changes nothing: undo", () -> {
            SpiralWords x = new SpiralWords();
            x.setCanvas(20, 20);
            x.undo();
            Check.refuses("undo", x, Check.STATE, x::undo);
            Check.same("value(0)", 60, x.value(0));
            x.setCanvas(30, 30);
            Check.same("undo", 0, x.undo());
        });
        Check.sentence("Nothing is promised beyond the answers and state changes described above: questions", () -> {
            leavesAll("word", x -> x.word(0, 5));
            leavesAll("letter", x -> x.letter(0, 0));
            leavesAll("value", x -> x.value(6));
            leavesAll("place", x -> x.place(0, 0));
            leavesAll("wordAt", x -> x.wordAt(30, 20));
            leavesAll("meetings", SpiralWords::meetings);
            leavesAll("extent", x -> x.extent(0));
            leavesAll("covered", SpiralWords::covered);
            leavesAll("spread", x -> x.spread(0));
            leavesAll("placedOn", x -> x.placedOn(10, 10, false));
            leavesAll("placedOn, places kept", x -> x.placedOn(80, 50, true));
            leavesAll("narrowest", SpiralWords::narrowest);
            leavesAll("movedBy", x -> x.movedBy(2, 1000));
            leavesAll("bestStride", SpiralWords::bestStride);
            leavesAll("digest", SpiralWords::digest);
        });
    }

    /** The hash, written from the document and the other calls; the number of saved states is told. */
    private static long hashOf(SpiralWords x, int textLength, int saved) {
        long h = 31L * 3329L + textLength;
        for (int what = 0; what <= 7; what++) {
            h = 31L * h + x.value(what);
        }
        int words = x.value(5);
        for (int word = 0; word < words; word++) {
            for (int what = 0; what <= 5; what++) {
                h = 31L * h + x.word(word, what);
            }
            int letters = x.word(word, 0);
            for (int index = 0; index < letters; index++) {
                h = 31L * h + x.letter(word, index);
            }
            for (int what = 0; what <= 4; what++) {
                h = 31L * h + x.place(word, what);
            }
        }
        h = 31L * h + x.meetings();
        for (int what = 0; what <= 4; what++) {
            h = 31L * h + x.extent(what);
        }
        return 31L * h + saved;
    }

    private static void digest() {
        Check.sentence("Start with h = 3329 (no words)", () -> {
            SpiralWords x = new SpiralWords();
            Check.same("digest of a new object", hashOf(x, 0, 0), x.digest());
            for (int length = 1; length <= 200; length++) {
                x.append(0);
            }
            Check.same("digest with 200 bytes", hashOf(x, 200, 0), x.digest());
        });
        Check.sentence("with the overflow of long arithmetic ignored", () -> {
            StringBuilder text = new StringBuilder();
            for (char first = 'a'; first <= 'l'; first++) {
                text.append(first).append("zyxwvutsr,").append(first - 'a' + 1).append(",23;");
            }
            SpiralWords x = Check.cloudOf(text.toString());
            Check.same("digest of 12 words of 10 letters", hashOf(x, 195, 1), x.digest());
            SpiralWords y = Check.cloudOf(text.toString());
            y.setWays(0, 1, 1);
            y.lay(false);
            Check.same("digest with places", hashOf(y, 195, 3), y.digest());
        });
        Check.sentence("for each word .. its letters", () -> {
            SpiralWords x = Check.letters(24, "23");
            x.setWays(2, 3, 1);
            x.lay(false);
            Check.same("digest of 24 words", hashOf(x, 168, 3), x.digest());
            SpiralWords y = Check.letters(24, "23");
            y.remove(0);
            Check.same("digest of 23 words", hashOf(y, 168, 2), y.digest());
        });
        Check.sentence("the number of saved states", () -> {
            SpiralWords x = new SpiralWords();
            for (int calls = 0; calls <= 6; calls++) {
                Check.same("digest", hashOf(x, 0, Math.min(4, calls)), x.digest());
                x.setCanvas(60, 40);
            }
            for (int left = 3; left >= 0; left--) {
                x.undo();
                Check.same("digest after undo", hashOf(x, 0, left), x.digest());
            }
        });
    }

    private static void fiveHundredAndTwelveCalls() {
        Check.sentence("An object is used for at most 512 calls after it has been made", () -> {
            SpiralWords x = new SpiralWords();
            for (int pair = 1; pair <= 255; pair++) {
                x.append(97);
                x.clearText();
            }
            Check.same("call 511", 1, x.append(98));
            Check.same("call 512", -11, x.parse());
            SpiralWords y = new SpiralWords();
            for (int call = 1; call <= 511; call++) {
                y.setCanvas(10 + call % 71, 10 + call % 41);
            }
            Check.same("call 512", 3, y.undo());
            SpiralWords z = new SpiralWords();
            for (int call = 1; call <= 511; call++) {
                z.lay(call % 2 == 0);
            }
            Check.same("call 512", 60, z.value(0));
        });
        Check.sentence("the dearest calls, as often as an object is used", () -> {
            SpiralWords x = Check.letters(24, "20");
            x.setWays(3, 4, 8);
            int calls = 171; // 168 bytes, clearText, parse, setWays
            while (calls < 512) {
                Check.same("narrowest", -1, x.narrowest());
                calls++;
            }
        });
    }
}
