/** Promises 2 to 4: append, clearText and parse. */
public final class TextTest {
    public static void main(String[] args) {
        appendCounts();
        appendRefuses();
        clearTextEmpties();
        parseReads();
        parseTellsErrors();
        parseTellsWeightErrors();
        parseTellsRepeatedWords();
        parseTakesTwentyFourWords();
        everyPrefixEndsTooEarly();
        parseKeepsPlaces();
        newWordsHaveNoPlace();
        parseIsUndoable();
        Check.end("TextTest");
    }

    private static void appendCounts() {
        SpiralWords x = new SpiralWords();
        for (int i = 1; i <= 200; i++) {
            Check.same("append", i, x.append(i % 128));
        }
        Check.refuses("append(97) to 200 bytes", x, Check.STATE, () -> x.append(97));
        Check.refuses("append(128) to 200 bytes", x, Check.ARGUMENT, () -> x.append(128));
        Check.same("clearText", 200, x.clearText());
        Check.same("append(0)", 1, x.append(0));
        Check.same("append(127)", 2, x.append(127));
    }

    private static void appendRefuses() {
        SpiralWords x = new SpiralWords();
        for (int value : new int[] {-1, 128, 255, Integer.MIN_VALUE, Integer.MAX_VALUE}) {
            Check.refuses("append(" + value + ")", x, Check.ARGUMENT, () -> x.append(value));
        }
        Check.same("append after refusals", 1, x.append(97));
    }

    private static void clearTextEmpties() {
        SpiralWords x = Check.cloudOf("ab,7,12;");
        Check.same("clearText", 8, x.clearText());
        Check.same("clearText again", 0, x.clearText());
        Check.same("the words stay", 1, x.value(5));
        Check.same("clearText is not undoable", 0, x.undo());
        Check.same("parse of the empty text", 0, x.parse());
    }

    private static void parseReads() {
        SpiralWords x = new SpiralWords();
        Check.write(x, "azbycxdwev,1000,23;m,0001,00;n,20,11;");
        Check.same("parse", 3, x.parse());
        int[][] due = {{10, 1000, 2, 3}, {1, 1, 0, 0}, {1, 20, 1, 1}};
        for (int word = 0; word < due.length; word++) {
            for (int what = 0; what < 4; what++) {
                Check.same("word(" + word + ", " + what + ")", due[word][what], x.word(word, what));
            }
        }
        Check.same("the text stays", 37, x.clearText());
        Check.same("parse of no words", 0, x.parse());
        Check.same("value(5)", 0, x.value(5));
    }

    private static void error(String text, int position) {
        SpiralWords x = Check.cloudOf("old,9,00;");
        Check.write(x, text);
        Check.asks("parse of '" + text + "'", x, -10 - position, x::parse);
        Check.same("undo after '" + text + "'", 0, x.undo());
    }

    private static void parseTellsErrors() {
        for (char sign : new char[] {'A', '`', '{', ' ', ';', ',', '0', 0, 127}) {
            error(sign + ",1,00;", 0);
            error("a,1,00;" + sign, 7);
        }
        error("a;", 1);
        error("a1", 1);
        error("abcdefghijk,1,00;", 10);
        error("abcdefghij;", 10);
        error("a,,", 2);
        error("a,x", 2);
        error("a,-1,00;", 2);
        error("a,12;", 4);
        error("a,12a", 4);
        error("a,1234,", 2);
        error("a,1000;", 6);
        error("a,1,3", 4);
        error("a,1,,", 4);
        error("a,1,/", 4);
        error("a,1,24", 5);
        error("a,1,2;", 5);
        error("a,1,23,", 6);
        error("a,1,230", 6);
        error("a,1,23 ", 6);
        error("a,1,00;b", 8);
        error("a,1,00;b,5", 10);
    }

    private static void parseTellsWeightErrors() {
        error("a,0", 2);
        error("a,0,", 2);
        error("a,0x", 2);
        error("a,0000", 2);
        error("a,0000;", 2);
        error("a,00000", 6);
        error("a,9999", 2);
        for (char digit = '0'; digit <= '9'; digit++) {
            error("a,9999" + digit, 6);
            error("a,0100" + digit, 6);
        }
        error("a,1001", 2);
        error("a,1001z", 2);
        error("a,10000", 6);
        error("a,1000", 6);
        error("b,1,00;a,0/", 9);
    }

    private static void parseTellsRepeatedWords() {
        error("a,1,00;a,1,00;", 7);
        error("a,1,00;a,", 7);
        error("a,1,00;a;", 8);
        error("a,1,00;a", 8);
        error("ab,1,00;b,1,00;ab,0", 15);
        SpiralWords x = new SpiralWords();
        Check.write(x, "ab,1,00;a,1,00;abc,1,00;b,1,00;ba,1,00;");
        Check.same("parse of words that begin alike", 5, x.parse());
    }

    private static void parseTakesTwentyFourWords() {
        SpiralWords x = Check.letters(24, "00");
        Check.same("24 words", 24, x.value(5));
        x.append('y');
        Check.same("the first letter of a 25th word", -10 - 168, x.parse());
        x.append(',');
        Check.same("the comma of a 25th word", -10 - 168, x.parse());
        SpiralWords again = Check.letters(24, "00");
        again.append(';');
        Check.same("a semicolon behind 24 words", -10 - 168, again.parse());
        SpiralWords repeated = Check.letters(24, "00");
        repeated.append('a');
        repeated.append(',');
        Check.same("a 25th word that was told before", -10 - 168, repeated.parse());
        Check.same("the 24 words stay", 24, repeated.value(5));
    }

    private static void everyPrefixEndsTooEarly() {
        String text = "abcdefghij,1000,23;x,7,10;yz,0080,02;";
        SpiralWords x = new SpiralWords();
        int words = 0;
        for (int length = 1; length <= text.length(); length++) {
            x.append(text.charAt(length - 1));
            boolean whole = text.charAt(length - 1) == ';';
            words += whole ? 1 : 0;
            int due = whole ? words : -10 - length;
            // a weight that is out of its range so far is told at its first digit
            if (text.substring(0, length).endsWith("yz,0") || text.substring(0, length).endsWith("yz,00")) {
                due = -10 - text.indexOf("0080");
            }
            Check.same("parse of the first " + length + " bytes", due, x.parse());
        }
    }

    private static void parseKeepsPlaces() {
        SpiralWords x = Check.cloudOf("ab,5,20;c,5,10;d,5,01;");
        x.setWays(0, 1, 1);
        x.lay(false);
        int[] ab = placeOf(x, 0);
        int[] c = placeOf(x, 1);
        Check.write(x, "e,5,00;c,900,02;a,5,00;ab,1,10;");
        Check.same("parse", 4, x.parse());
        Check.noPlace("a new word", x, 0);
        Check.place("a word that was there", x, 1, c);
        Check.noPlace("another new word", x, 2);
        Check.place("a word that was there", x, 3, ab);
        Check.same("the ways stay", 1, x.value(3));
        Check.same("words with a place", 2, x.value(6));
        Check.write(x, "d,5,01;");
        x.parse();
        Check.noPlace("a word that came back", x, 0);
    }

    private static void newWordsHaveNoPlace() {
        SpiralWords x = Check.cloudOf("a,5,00;b,5,00;");
        x.lay(false);
        Check.same("a question lays both", 2, x.placedOn(60, 40, false));
        Check.write(x, "c,5,00;d,5,00;");
        x.parse();
        Check.noPlace("a new word after a question", x, 0);
        Check.noPlace("another new word after a question", x, 1);
    }

    static int[] placeOf(SpiralWords x, int word) {
        int[] place = new int[5];
        for (int what = 0; what < 5; what++) {
            place[what] = x.place(word, what);
        }
        return place;
    }

    private static void parseIsUndoable() {
        SpiralWords x = Check.cloudOf("ab,5,20;c,6,10;");
        x.lay(false);
        x.clearText();
        Check.write(x, "c,7,01;");
        x.parse();
        x.parse();
        Check.same("undo", 3, x.undo());
        Check.same("the second parse changed nothing", 1, x.value(5));
        Check.same("undo", 2, x.undo());
        Check.same("the words are back", 2, x.value(5));
        Check.same("their letters are back", 1, x.letter(0, 1));
        Check.same("their places are back", 2, x.value(6));
        Check.same("the text is not", 7, x.clearText());
    }
}
