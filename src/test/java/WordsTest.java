/** Promises 5, 6, 7, 10 and 11: setWeight, setKind, remove, word and letter. */
public final class WordsTest {
    private static final int[] NO_WORDS = {-1, 3, 24, Integer.MIN_VALUE, Integer.MAX_VALUE};

    public static void main(String[] args) {
        setWeightSets();
        setKindSets();
        removeMovesUp();
        wordTells();
        sizesFollowWeights();
        ranksFollowWeights();
        letterTells();
        wrongCallsAreRefused();
        Check.end("WordsTest");
    }

    private static SpiralWords threeWords() {
        return Check.cloudOf("ab,10,21;cde,20,10;z,10,03;");
    }

    private static void setWeightSets() {
        SpiralWords x = threeWords();
        x.lay(false);
        int[] place = TextTest.placeOf(x, 1);
        Check.same("setWeight", 20, x.setWeight(1, 1));
        Check.same("setWeight", 1, x.setWeight(1, 1000));
        Check.same("setWeight", 1000, x.setWeight(1, 1000));
        Check.same("word(1, 1)", 1000, x.word(1, 1));
        Check.place("its place stays", x, 1, place);
        Check.same("undo of no change", 3, x.undo());
        Check.same("word(1, 1)", 1000, x.word(1, 1));
        Check.same("undo", 2, x.undo());
        Check.same("word(1, 1)", 1, x.word(1, 1));
        Check.same("undo", 1, x.undo());
        Check.same("word(1, 1)", 20, x.word(1, 1));
    }

    private static void setKindSets() {
        SpiralWords x = threeWords();
        x.lay(false);
        int[] place = TextTest.placeOf(x, 0);
        Check.same("setKind", 2, x.setKind(0, 0, 3));
        Check.same("word(0, 2)", 0, x.word(0, 2));
        Check.same("word(0, 3)", 3, x.word(0, 3));
        Check.same("setKind", 0, x.setKind(0, 1, 0));
        Check.same("setKind", 1, x.setKind(0, 2, 2));
        Check.same("word(0, 2)", 2, x.word(0, 2));
        Check.same("word(0, 3)", 2, x.word(0, 3));
        Check.place("its place stays", x, 0, place);
        Check.same("undo", 3, x.undo());
        Check.same("word(0, 2)", 1, x.word(0, 2));
        Check.same("word(0, 3)", 0, x.word(0, 3));
    }

    private static void removeMovesUp() {
        SpiralWords x = threeWords();
        x.lay(false);
        int[] last = TextTest.placeOf(x, 2);
        Check.same("remove", 2, x.remove(1));
        Check.same("word(1, 0)", 1, x.word(1, 0));
        Check.same("letter(1, 0)", 25, x.letter(1, 0));
        Check.place("the place goes along", x, 1, last);
        Check.refuses("word(2, 0)", x, Check.INDEX, () -> x.word(2, 0));
        Check.same("remove", 1, x.remove(1));
        Check.same("remove", 0, x.remove(0));
        Check.refuses("remove(0) of none", x, Check.INDEX, () -> x.remove(0));
        Check.same("undo", 3, x.undo());
        Check.same("undo", 2, x.undo());
        Check.same("undo", 1, x.undo());
        Check.same("value(5)", 3, x.value(5));
        Check.same("word(1, 0)", 3, x.word(1, 0));
        Check.same("letter(1, 2)", 4, x.letter(1, 2));
        Check.place("the place is back", x, 2, last);
        SpiralWords full = Check.letters(24, "00");
        for (int rest = 23; rest >= 0; rest--) {
            Check.same("remove of one of " + (rest + 1), rest, full.remove(rest / 2));
        }
    }

    private static void wordTells() {
        SpiralWords x = threeWords();
        int[][] due = {{2, 10, 2, 1, 1, 1}, {3, 20, 1, 0, 0, 5}, {1, 10, 0, 3, 2, 1}};
        for (int word = 0; word < 3; word++) {
            for (int what = 0; what < 6; what++) {
                Check.same("word(" + word + ", " + what + ")", due[word][what], x.word(word, what));
            }
        }
    }

    private static void sizesFollowWeights() {
        SpiralWords x = Check.cloudOf("a,100,00;b,50,00;c,50,00;d,10,00;e,1,00;f,75,00;g,99,00;");
        sizes(x, 5, 2, 2, 1, 1, 3, 4);
        x.setWays(0, 2, 8);
        sizes(x, 8, 4, 4, 1, 1, 6, 7);
        x.setWays(0, 2, 1);
        sizes(x, 1, 1, 1, 1, 1, 1, 1);
        SpiralWords equal = Check.cloudOf("a,7,00;b,7,00;");
        sizes(equal, 5, 5);
        equal.setWeight(0, 8);
        sizes(equal, 5, 1);
        equal.remove(0);
        sizes(equal, 5);
        equal.setWays(0, 2, 8);
        sizes(equal, 8);
        SpiralWords wide = Check.cloudOf("a,1000,00;b,1,00;c,500,00;d,501,00;");
        wide.setWays(0, 2, 3);
        sizes(wide, 3, 1, 1, 2);
    }

    private static void sizes(SpiralWords x, int... due) {
        for (int word = 0; word < due.length; word++) {
            Check.same("word(" + word + ", 5)", due[word], x.word(word, 5));
        }
    }

    private static void ranksFollowWeights() {
        SpiralWords x = Check.cloudOf("a,5,00;b,9,00;c,5,00;d,9,00;e,1,00;");
        ranks(x, 2, 0, 3, 1, 4);
        x.setWeight(2, 9);
        ranks(x, 3, 0, 1, 2, 4);
        x.remove(1);
        ranks(x, 2, 0, 1, 3);
    }

    private static void ranks(SpiralWords x, int... due) {
        for (int word = 0; word < due.length; word++) {
            Check.same("word(" + word + ", 4)", due[word], x.word(word, 4));
        }
    }

    private static void letterTells() {
        SpiralWords x = Check.cloudOf("abcdefghij,1,00;klmnopqrst,1,00;uvwxyz,1,00;");
        for (int i = 0; i < 26; i++) {
            Check.same("letter of " + (char) ('a' + i), i, x.letter(i / 10, i % 10));
        }
        Check.refuses("letter(2, 6)", x, Check.INDEX, () -> x.letter(2, 6));
        Check.refuses("letter(0, 10)", x, Check.INDEX, () -> x.letter(0, 10));
        Check.refuses("letter(0, -1)", x, Check.INDEX, () -> x.letter(0, -1));
        Check.refuses("letter(3, 0)", x, Check.INDEX, () -> x.letter(3, 0));
        Check.refuses("letter(-1, 0)", x, Check.INDEX, () -> x.letter(-1, 0));
    }

    private static void wrongCallsAreRefused() {
        SpiralWords x = threeWords();
        for (int word : NO_WORDS) {
            String row = "(" + word + ", ..)";
            Check.refuses("setWeight" + row, x, Check.INDEX, () -> x.setWeight(word, 5));
            Check.refuses("setWeight with two faults" + row, x, Check.INDEX, () -> x.setWeight(word, 0));
            Check.refuses("setKind" + row, x, Check.INDEX, () -> x.setKind(word, 0, 0));
            Check.refuses("setKind with two faults" + row, x, Check.INDEX, () -> x.setKind(word, 3, 0));
            Check.refuses("remove" + row, x, Check.INDEX, () -> x.remove(word));
            Check.refuses("word" + row, x, Check.INDEX, () -> x.word(word, 0));
            Check.refuses("word with two faults" + row, x, Check.INDEX, () -> x.word(word, 6));
        }
        for (int weight : new int[] {0, 1001, -1, Integer.MIN_VALUE, Integer.MAX_VALUE}) {
            Check.refuses("setWeight(0, " + weight + ")", x, Check.ARGUMENT, () -> x.setWeight(0, weight));
        }
        for (int kind : new int[] {-1, 4, Integer.MIN_VALUE, Integer.MAX_VALUE}) {
            Check.refuses("setKind(0, " + kind + ", 0)", x, Check.ARGUMENT, () -> x.setKind(0, kind, 0));
            Check.refuses("setKind(0, 0, " + kind + ")", x, Check.ARGUMENT, () -> x.setKind(0, 0, kind));
        }
        Check.refuses("setKind(0, 3, 0)", x, Check.ARGUMENT, () -> x.setKind(0, 3, 0));
        for (int what : new int[] {-1, 6, Integer.MIN_VALUE, Integer.MAX_VALUE}) {
            Check.refuses("word(0, " + what + ")", x, Check.ARGUMENT, () -> x.word(0, what));
        }
        Check.same("nothing was saved but by parse", 0, x.undo());
    }
}
