/** The edges that the document names in 'Words' and 'Sizes' and in promises 5, 6, 7, 10 and 11. */
public final class EdgesOfWordsTest {
    public static void main(String[] args) {
        words();
        ranks();
        sizes();
        setWeight();
        setKind();
        remove();
        word();
        letter();
        Check.end("EdgesOfWordsTest");
    }

    private static SpiralWords threeWords() {
        return Check.cloudOf("ab,10,21;cde,20,10;z,10,03;");
    }

    /** The word's number is refused below 0 and from the number of words on, of three words and of none. */
    private static void refusesNumbers(String name, java.util.function.ObjIntConsumer<SpiralWords> call) {
        SpiralWords x = threeWords();
        x.lay(false);
        SpiralWords none = new SpiralWords();
        for (int word : new int[] {-1, 3, 4, 24, 25}) {
            Check.refuses(name + " of " + word, x, Check.INDEX, () -> call.accept(x, word));
        }
        for (int word : Check.FAR) {
            Check.refuses(name + " of " + word, x, Check.INDEX, () -> call.accept(x, word));
        }
        for (int word : new int[] {-1, 0, 1, 23, 24}) {
            Check.refuses(name + " of " + word + " of none", none, Check.INDEX, () -> call.accept(none, word));
        }
    }

    private static void words() {
        Check.sentence("There are at most 24 words", () -> {
            SpiralWords x = Check.letters(24, "00");
            Check.same("words", 24, x.value(5));
            Check.same("the last one's letter", 23, x.letter(23, 0));
            Check.refuses("a 25th", x, Check.INDEX, () -> x.word(24, 0));
            Check.same("lay", 24, x.lay(false));
            Check.same("the last one's place", 5, x.place(23, 2));
        });
        Check.sentence("numbered from 0 in the order in which they were added", () -> {
            SpiralWords x = Check.cloudOf("z,1,00;a,9,00;m,5,00;");
            int[] due = {'z' - 'a', 0, 'm' - 'a'};
            for (int word = 0; word < 3; word++) {
                Check.same("letter", due[word], x.letter(word, 0));
            }
        });
        Check.sentence("a weight, 1 to 1000", () -> {
            SpiralWords x = Check.cloudOf("a,1,00;b,1000,00;");
            Check.same("the least", 1, x.word(0, 1));
            Check.same("the greatest", 1000, x.word(1, 1));
        });
        Check.sentence("A word has a place or none", () -> {
            SpiralWords x = threeWords();
            Check.noPlace("a new one", x, 0);
            x.lay(false);
            Check.same("a laid one", 1, x.place(0, 0) >= 0 ? 1 : 0);
        });
    }

    private static void ranks(SpiralWords x, int... due) {
        for (int word = 0; word < due.length; word++) {
            Check.same("word(" + word + ", 4)", due[word], x.word(word, 4));
        }
    }

    private static void ranks() {
        Check.sentence("The words are ranked by descending weights", () -> {
            ranks(Check.cloudOf("a,1,00;b,999,00;c,1000,00;d,2,00;"), 3, 1, 0, 2);
            ranks(Check.cloudOf("a,5,00;"), 0);
        });
        Check.sentence("equal ones by their numbers", () -> {
            int[] due = new int[24];
            for (int word = 0; word < 24; word++) {
                due[word] = word;
            }
            SpiralWords x = Check.letters(24, "00");
            ranks(x, due);
            x.setWeight(23, 2);
            Check.same("the last one is the first", 0, x.word(23, 4));
            Check.same("the first one is the second", 1, x.word(0, 4));
            x.setWeight(0, 2);
            Check.same("the first one is the first again", 0, x.word(0, 4));
            Check.same("the last one is the second", 1, x.word(23, 4));
            Check.same("the second one is the third", 2, x.word(1, 4));
        });
    }

    private static void sizesOf(SpiralWords x, int... due) {
        for (int word = 0; word < due.length; word++) {
            Check.same("word(" + word + ", 5)", due[word], x.word(word, 5));
        }
    }

    private static void sizes() {
        Check.sentence("or the greatest size if a is b", () -> {
            for (int greatest = 1; greatest <= 8; greatest++) {
                SpiralWords one = Check.cloudOf("a,1,00;");
                one.setWays(0, 2, greatest);
                sizesOf(one, greatest);
                SpiralWords equal = Check.cloudOf("a,1000,00;b,1000,00;c,1000,00;");
                equal.setWays(0, 2, greatest);
                sizesOf(equal, greatest, greatest, greatest);
            }
        });
        Check.sentence("1 + (weight - a) * (greatest size - 1) / (b - a)", () -> {
            for (int greatest = 1; greatest <= 8; greatest++) {
                SpiralWords x = Check.cloudOf("a,1,00;b,1000,00;c,2,00;d,999,00;e,500,00;");
                x.setWays(0, 2, greatest);
                sizesOf(x, 1, greatest, 1, greatest == 1 ? 1 : greatest - 1, 1 + 499 * (greatest - 1) / 999);
            }
            sizesOf(Check.cloudOf("a,7,00;b,8,00;"), 1, 5);
        });
        Check.sentence("a / b means division rounded down", () -> {
            SpiralWords x = Check.cloudOf("a,1,00;b,1000,00;c,143,00;d,144,00;e,286,00;f,287,00;");
            x.setWays(0, 2, 8);
            // 142 * 7 = 994 and 285 * 7 = 1995 are just below 999 and 1998; 143 * 7 and 286 * 7 just above them.
            sizesOf(x, 1, 8, 1, 2, 2, 3);
            SpiralWords y = Check.cloudOf("a,1,00;b,9,00;c,2,00;d,3,00;e,8,00;f,5,00;g,4,00;");
            sizesOf(y, 1, 5, 1, 2, 4, 3, 2);
        });
        Check.sentence("With the smallest weight a and the greatest weight b of all words", () -> {
            SpiralWords x = Check.cloudOf("a,5,00;b,3,00;c,7,00;");
            sizesOf(x, 3, 1, 5);
            x.remove(2);
            sizesOf(x, 5, 1);
            x.remove(1);
            sizesOf(x, 5);
        });
    }

    private static void setWeight() {
        Check.sentence("setWeight: weight: 1 to 1000", () -> {
            SpiralWords x = threeWords();
            Check.same("setWeight(2, 1)", 10, x.setWeight(2, 1));
            Check.same("setWeight(2, 1000)", 1, x.setWeight(2, 1000));
            Check.same("setWeight(0, 5)", 10, x.setWeight(0, 5));
            Check.same("word(2, 1)", 1000, x.word(2, 1));
            Check.same("word(1, 1)", 20, x.word(1, 1));
        });
        Check.sentence("setWeight: Throws IllegalArgumentException if weight is out of range", () -> {
            SpiralWords x = threeWords();
            for (int weight : new int[] {0, 1001, -1, -1000, 1 + 1024, 1 + 65536}) {
                Check.refuses("setWeight(0, " + weight + ")", x, Check.ARGUMENT, () -> x.setWeight(0, weight));
            }
            for (int weight : Check.FAR) {
                Check.refuses("setWeight(2, " + weight + ")", x, Check.ARGUMENT, () -> x.setWeight(2, weight));
            }
        });
        Check.sentence("setWeight: Throws IndexOutOfBoundsException if there is no such word",
            () -> refusesNumbers("setWeight", (x, word) -> x.setWeight(word, 5)));
        Check.sentence("setWeight: the exception that is listed first", () -> {
            refusesNumbers("setWeight to 0", (x, word) -> x.setWeight(word, 0));
            refusesNumbers("setWeight to 1001", (x, word) -> x.setWeight(word, 1001));
        });
    }

    private static void setKind() {
        Check.sentence("setKind: direction: 0 to 2", () -> {
            SpiralWords x = threeWords();
            Check.same("setKind", 2, x.setKind(0, 0, 1));
            Check.same("setKind", 0, x.setKind(0, 2, 1));
            Check.same("setKind", 2, x.setKind(0, 1, 1));
            Check.same("word(0, 2)", 1, x.word(0, 2));
            Check.same("setKind of the last word", 0, x.setKind(2, 2, 3));
        });
        Check.sentence("setKind: group: 0 to 3", () -> {
            SpiralWords x = threeWords();
            for (int group = 0; group <= 3; group++) {
                x.setKind(1, 1, group);
                Check.same("word(1, 3)", group, x.word(1, 3));
            }
        });
        Check.sentence("setKind: Throws IllegalArgumentException if direction or group is out of range", () -> {
            SpiralWords x = threeWords();
            for (int direction : new int[] {-1, 3, 4, Integer.MIN_VALUE, Integer.MAX_VALUE}) {
                Check.refuses("direction " + direction, x, Check.ARGUMENT, () -> x.setKind(0, direction, 0));
                Check.refuses("direction " + direction, x, Check.ARGUMENT, () -> x.setKind(0, direction, 3));
                Check.refuses("both", x, Check.ARGUMENT, () -> x.setKind(0, direction, 4));
            }
            for (int group : new int[] {-1, 4, Integer.MIN_VALUE, Integer.MAX_VALUE}) {
                Check.refuses("group " + group, x, Check.ARGUMENT, () -> x.setKind(0, 0, group));
                Check.refuses("group " + group, x, Check.ARGUMENT, () -> x.setKind(0, 2, group));
            }
        });
        Check.sentence("setKind: Throws IndexOutOfBoundsException if there is no such word",
            () -> refusesNumbers("setKind", (x, word) -> x.setKind(word, 0, 0)));
        Check.sentence("setKind: the exception that is listed first", () -> {
            refusesNumbers("setKind to a direction 3", (x, word) -> x.setKind(word, 3, 0));
            refusesNumbers("setKind to a group 4", (x, word) -> x.setKind(word, 0, 4));
        });
    }

    private static void remove() {
        Check.sentence("the numbers of those behind it decrease by 1", () -> {
            SpiralWords x = threeWords();
            x.lay(false);
            int[] last = TextTest.placeOf(x, 2);
            int[] first = TextTest.placeOf(x, 0);
            x.remove(1);
            Check.same("the last one's letter", 25, x.letter(1, 0));
            Check.place("the last one's place", x, 1, last);
            Check.place("the first one stays", x, 0, first);
            x.remove(1);
            Check.place("the first one stays, when the last goes", x, 0, first);
            Check.same("the first one's letter", 1, x.letter(0, 1));
        });
        Check.sentence("remove: Returns the number of words that are left.", () -> {
            SpiralWords x = Check.letters(24, "00");
            for (int left = 23; left >= 0; left--) {
                Check.same("remove(0)", left, x.remove(0));
                Check.same("value(5)", left, x.value(5));
            }
            SpiralWords y = Check.letters(24, "00");
            Check.same("remove(23)", 23, y.remove(23));
            Check.refuses("remove(23) again", y, Check.INDEX, () -> y.remove(23));
        });
        Check.sentence("remove: Throws IndexOutOfBoundsException if there is no such word",
            () -> refusesNumbers("remove", SpiralWords::remove));
        Check.sentence("a removed word may be added again, without a place", () -> {
            SpiralWords x = threeWords();
            x.lay(false);
            x.remove(0);
            Check.same("parse", 3, x.parse());
            Check.noPlace("it", x, 0);
            Check.same("the others have theirs", 2, x.value(6));
        });
    }

    private static void word() {
        Check.sentence("word: what: 0 .. 5", () -> {
            SpiralWords x = threeWords();
            int[][] due = {{2, 10, 2, 1, 1, 1}, {3, 20, 1, 0, 0, 5}, {1, 10, 0, 3, 2, 1}};
            for (int word = 0; word < 3; word++) {
                for (int what = 0; what <= 5; what++) {
                    Check.same("word(" + word + ", " + what + ")", due[word][what], x.word(word, what));
                }
            }
            SpiralWords ten = Check.cloudOf("abcdefghij,1,00;");
            Check.same("ten letters", 10, ten.word(0, 0));
        });
        Check.sentence("word: Throws IllegalArgumentException if what is out of range", () -> {
            SpiralWords x = threeWords();
            for (int what : new int[] {-1, 6, 7, Integer.MIN_VALUE, Integer.MAX_VALUE}) {
                Check.refuses("word(0, " + what + ")", x, Check.ARGUMENT, () -> x.word(0, what));
                Check.refuses("word(2, " + what + ")", x, Check.ARGUMENT, () -> x.word(2, what));
            }
        });
        Check.sentence("word: Throws IndexOutOfBoundsException if there is no such word",
            () -> refusesNumbers("word", (x, word) -> x.word(word, 0)));
        Check.sentence("word: the exception that is listed first", () -> {
            refusesNumbers("word's 6", (x, word) -> x.word(word, 6));
            refusesNumbers("word's -1", (x, word) -> x.word(word, -1));
        });
    }

    private static void letter() {
        Check.sentence("Returns the letter, 0 for \"a\" to 25.", () -> {
            SpiralWords x = Check.cloudOf("abcdefghij,1,00;klmnopqrst,1,00;uvwxyz,1,00;");
            for (int i = 0; i < 26; i++) {
                Check.same("letter " + (char) ('a' + i), i, x.letter(i / 10, i % 10));
            }
        });
        Check.sentence("letter: Throws IndexOutOfBoundsException if there is no such word or letter", () -> {
            refusesNumbers("letter", (x, word) -> x.letter(word, 0));
            SpiralWords x = Check.cloudOf("ab,1,00;abcdefghij,1,00;c,1,00;");
            int[] lengths = {2, 10, 1};
            for (int word = 0; word < 3; word++) {
                int asked = word;
                int length = lengths[word];
                Check.that("the last letter of " + word, x.letter(word, length - 1) >= 0);
                for (int index : new int[] {-1, length, length + 1, 10, 11, Integer.MIN_VALUE, Integer.MAX_VALUE}) {
                    Check.refuses("letter(" + word + ", " + index + ")", x, Check.INDEX, () -> x.letter(asked, index));
                }
            }
        });
        Check.sentence("no letter of a longer word that stood there before", () -> {
            SpiralWords x = Check.cloudOf("abcdefghij,1,00;kl,1,00;");
            x.remove(0);
            Check.refuses("letter(0, 2)", x, Check.INDEX, () -> x.letter(0, 2));
            Check.write(x, "m,1,00;");
            x.parse();
            Check.refuses("letter(0, 1)", x, Check.INDEX, () -> x.letter(0, 1));
            x.undo();
            x.undo();
            Check.same("letter(0, 9)", 9, x.letter(0, 9));
        });
    }
}
