/** The edges that the document names in 'Word text' and in promises 2 to 4, a test for each sentence. */
public final class EdgesOfTextTest {
    private static final String TEN = "abcdefghij";

    public static void main(String[] args) {
        appending();
        clearing();
        letters();
        weights();
        kinds();
        ends();
        repeated();
        parsing();
        Check.end("EdgesOfTextTest");
    }

    /** This text is wrong at that position, in a cloud that has a word with a place. */
    private static void wrong(String text, int position) {
        SpiralWords x = Check.cloudOf("old,9,00;");
        x.lay(false);
        Check.write(x, text);
        Check.asks("parse of '" + text + "'", x, -10 - position, x::parse);
    }

    private static void right(String text, int words) {
        SpiralWords x = new SpiralWords();
        Check.write(x, text);
        Check.same("parse of '" + text + "'", words, x.parse());
        Check.same("words of '" + text + "'", words, x.value(5));
    }

    private static SpiralWords fullOf(char sign) {
        SpiralWords x = new SpiralWords();
        for (int i = 0; i < 200; i++) {
            x.append(sign);
        }
        return x;
    }

    private static void appending() {
        Check.sentence("value: the byte, 0 to 127", () -> {
            SpiralWords x = new SpiralWords();
            for (int value = 0; value <= 127; value++) {
                Check.same("append(" + value + ")", value + 1, x.append(value));
            }
        });
        Check.sentence("Throws IllegalArgumentException if value is out of range", () -> {
            SpiralWords x = new SpiralWords();
            for (int value : new int[] {-1, 128, -128, 255, 256, 97 + 256, 97 + 65536, 97 - 256}) {
                Check.refuses("append(" + value + ")", x, Check.ARGUMENT, () -> x.append(value));
            }
            for (int value : Check.FAR) {
                Check.refuses("append(" + value + ")", x, Check.ARGUMENT, () -> x.append(value));
            }
            Check.same("append behind them", 1, x.append(97));
        });
        Check.sentence("Throws IllegalStateException if the text has 200 bytes", () -> {
            SpiralWords x = fullOf('a');
            Check.refuses("the 201st", x, Check.STATE, () -> x.append(97));
            Check.refuses("the 201st, 0", x, Check.STATE, () -> x.append(0));
            Check.refuses("the 201st, 127", x, Check.STATE, () -> x.append(127));
            Check.same("parse at 200 bytes", -20, x.parse());
            Check.refuses("the 201st after a parse", x, Check.STATE, () -> x.append(97));
            x.clearText();
            Check.same("append to the emptied text", 1, x.append(97));
        });
        Check.sentence("The text has at most 200 bytes.", () -> {
            SpiralWords x = new SpiralWords();
            for (int length = 1; length <= 200; length++) {
                Check.same("append", length, x.append(97));
            }
        });
        Check.sentence("If several exceptions apply, the one that is listed first is thrown. (append)", () -> {
            SpiralWords x = fullOf('a');
            Check.refuses("append(128) to 200 bytes", x, Check.ARGUMENT, () -> x.append(128));
            Check.refuses("append(-1) to 200 bytes", x, Check.ARGUMENT, () -> x.append(-1));
        });
    }

    private static void clearing() {
        Check.sentence("Returns the length that it had.", () -> {
            SpiralWords x = new SpiralWords();
            Check.same("of a new object", 0, x.clearText());
            x.append(97);
            Check.same("of one byte", 1, x.clearText());
            Check.same("once more", 0, x.clearText());
            Check.same("of 200 bytes", 200, fullOf(';').clearText());
        });
        Check.sentence("Empties the word text.", () -> {
            SpiralWords x = new SpiralWords();
            Check.write(x, "a,1,00;b,1,00;");
            x.clearText();
            Check.same("parse of nothing", 0, x.parse());
            Check.same("the first byte behind it", 1, x.append('c'));
            Check.same("what stood there is gone", -11, x.parse());
        });
    }

    private static void letters() {
        Check.sentence("A word has 1 to 10 letters", () -> {
            right("a,1,00;", 1);
            right(TEN + ",1,00;", 1);
            wrong(",1,00;", 0);
            wrong("a,1,00;,1,00;", 7);
            wrong(",", 0);
        });
        Check.sentence("an eleventh letter", () -> {
            wrong(TEN + "k,1,00;", 10);
            wrong(TEN + "k", 10);
            wrong("a,1,00;" + TEN + "a,1,00;", 17);
            SpiralWords x = fullOf('z');
            Check.same("parse of 200 letters", -20, x.parse());
        });
        Check.sentence("letters \"a\" to \"z\"", () -> {
            right("a,1,00;z,1,00;az,1,00;za,1,00;", 4);
            for (char sign = 0; sign < 128; sign++) {
                if (sign < 'a' || sign > 'z') {
                    wrong(sign + "b,1,00;", 0);
                    wrong("a,1,00;" + sign, 7);
                    wrong("b" + sign + (sign == ',' ? "," : ""), sign == ',' ? 2 : 1);
                    wrong(TEN + sign + (sign == ',' ? "," : ""), sign == ',' ? 11 : 10);
                }
            }
        });
        Check.sentence("There are no spaces", () -> {
            String text = "ab,12,10;c,3,21;";
            for (int i = 0; i <= text.length(); i++) {
                wrong(text.substring(0, i) + " " + text.substring(i), i);
            }
        });
        Check.sentence("there may be no words", () -> {
            SpiralWords x = Check.cloudOf("a,1,00;");
            x.clearText();
            Check.same("parse of the empty text", 0, x.parse());
            Check.same("words", 0, x.value(5));
            Check.same("undo", 1, x.undo());
            Check.same("the word is back", 1, x.value(5));
        });
    }

    private static void weights() {
        Check.sentence("the weight (one to four digits)", () -> {
            for (String weight : new String[] {"1", "01", "001", "0001", "9", "99", "999", "1000"}) {
                SpiralWords x = Check.cloudOf("a," + weight + ",00;");
                Check.same("the weight of '" + weight + "'", Integer.parseInt(weight), x.word(0, 1));
            }
            wrong("a,,00;", 2);
            wrong("a,;", 2);
            for (char sign = 0; sign < 128; sign++) {
                if (sign < '0' || sign > '9') {
                    wrong("a," + sign, 2);
                    wrong("a,1" + sign + (sign == ',' ? "," : ""), sign == ',' ? 4 : 3);
                    wrong("a,1000" + sign + (sign == ',' ? "," : ""), sign == ',' ? 7 : 6);
                }
            }
        });
        Check.sentence("a fifth digit", () -> {
            for (char digit = '0'; digit <= '9'; digit++) {
                wrong("a,1000" + digit + ",00;", 6);
                wrong("a,0001" + digit, 6);
                wrong("a,0000" + digit + ",00;", 6);
                wrong("a,9999" + digit + ",00;", 6);
            }
            wrong("a,10000000000000000000,00;", 6);
        });
        Check.sentence("for a weight that is out of its range it is the index of its first digit", () -> {
            right("a,1,00;b,1000,00;", 2);
            for (String weight : new String[] {"0", "00", "000", "0000", "1001", "1002", "1999", "2000", "9999"}) {
                wrong("a," + weight + ",00;", 2);
                wrong("ab,1,00;cde," + weight + ",00;", 12);
            }
        });
        Check.sentence("found when a byte that is no digit, whichever it is, or the end of the text, follows it", () -> {
            for (String weight : new String[] {"0", "00", "000", "0000", "1001", "9999"}) {
                for (char sign = 0; sign < 128; sign++) {
                    if (sign < '0' || sign > '9') {
                        wrong("a," + weight + sign, 2);
                    }
                }
                wrong("a," + weight, 2);
            }
            // As long as digits follow, the range is not looked at.
            right("a,0001,00;b,0999,00;", 2);
            wrong("a,1,00;b,0", 9);
        });
        Check.sentence("the index of its first digit: before what stands wrong behind it", () -> {
            wrong("a,0,30;", 2);
            wrong("a,1001;", 2);
            wrong("a,0,", 2);
        });
    }

    private static void kinds() {
        Check.sentence("the direction (a digit 0 to 2)", () -> {
            for (char sign = 0; sign < 128; sign++) {
                if (sign >= '0' && sign <= '2') {
                    Check.same("the direction", sign - '0', Check.cloudOf("a,1," + sign + "0;").word(0, 2));
                } else {
                    wrong("a,1," + sign + "0;", 4);
                    wrong("a,1," + sign, 4);
                }
            }
        });
        Check.sentence("the group (a digit 0 to 3)", () -> {
            for (char sign = 0; sign < 128; sign++) {
                if (sign >= '0' && sign <= '3') {
                    Check.same("the group", sign - '0', Check.cloudOf("a,1,0" + sign + ";").word(0, 3));
                } else {
                    wrong("a,1,0" + sign + ";", 5);
                    wrong("a,1,0" + sign, 5);
                }
            }
        });
        Check.sentence("each terminated by a semicolon", () -> {
            for (char sign = 0; sign < 128; sign++) {
                if (sign != ';') {
                    wrong("a,1,00" + sign, 6);
                    wrong("b,1,00;a,1,00" + sign + "b,1,00;", 13);
                }
            }
        });
    }

    private static void ends() {
        Check.sentence("or the length of the text if the text ends too early", () -> {
            String text = "b,1,00;" + TEN + ",1000,23;";
            for (int length = 1; length < text.length(); length++) {
                if (length != 7) {
                    wrong(text.substring(0, length), length);
                }
            }
        });
        Check.sentence("the first letter of a 25th word, too", () -> {
            SpiralWords x = Check.letters(24, "00");
            Check.same("24 words", 24, x.value(5));
            x.append('y');
            Check.asks("the first letter", x, -10 - 168, x::parse);
            for (char sign : ",1,00;".toCharArray()) {
                x.append(sign);
                Check.asks("the same with more of it", x, -10 - 168, x::parse);
            }
            x.append('z');
            Check.asks("with a letter of a 26th", x, -10 - 168, x::parse);
            for (char sign = 0; sign < 128; sign++) {
                SpiralWords other = Check.letters(24, "00");
                other.append(sign);
                Check.asks("byte " + (int) sign + " behind 24 words", other, -10 - 168, other::parse);
            }
        });
        Check.sentence("-10 minus the syntax error position", () -> {
            wrong(";", 0);
            SpiralWords x = new SpiralWords();
            // 20 words of 10 bytes, the last one without its end.
            for (char letter = 'a'; letter <= 't'; letter++) {
                for (char sign : (letter + "bcd,1,00;").toCharArray()) {
                    x.append(sign);
                }
            }
            Check.same("parse of 200 bytes", 20, x.parse());
            Check.same("its length", 200, x.clearText());
            SpiralWords early = new SpiralWords();
            for (char letter = 'a'; letter <= 's'; letter++) {
                for (char sign : (letter + "bcd,1,00;").toCharArray()) {
                    early.append(sign);
                }
            }
            for (char sign : "tbcde,1,0".toCharArray()) {
                early.append(sign);
            }
            Check.same("199 bytes that end too early", -209, early.parse());
            early.append('0');
            Check.same("200 bytes that end too early", -210, early.parse());
        });
    }

    private static void repeated() {
        Check.sentence("For a word that was told before in the text it is the index of its first letter", () -> {
            wrong("a,1,00;a,1,00;", 7);
            wrong("ab,1,00;cd,1,00;ab,2,11;", 16);
            wrong("ab,1,00;cd,1,00;cd,2,11;", 16);
            wrong(TEN + ",1,00;b,1,00;" + TEN + ",1,00;", 23);
            right("a,1,00;aa,1,00;aaa,1,00;b,1,00;ab,1,00;ba,1,00;", 6);
            right(TEN + ",1,00;abcdefghii,1,00;bbcdefghij,1,00;abcdefghi,1,00;", 4);
        });
        Check.sentence("found at the comma behind it", () -> {
            wrong("a,1,00;a", 8);
            wrong("a,1,00;a;", 8);
            wrong("a,1,00;a1", 8);
            wrong(TEN + ",1,00;" + TEN + "a,", 26);
            wrong("a,1,00;a,", 7);
            wrong("a,1,00;a,x", 7);
            wrong("a,1,00;a,0,", 7);
            wrong("a,1,00;ab,1,00;a,", 15);
        });
        Check.sentence("told before in the text (and not in the cloud)", () -> {
            SpiralWords x = Check.cloudOf("a,1,00;b,1,00;");
            Check.same("parse again", 2, x.parse());
            Check.write(x, "b,1,00;");
            Check.same("parse of a word that the cloud has", 1, x.parse());
            Check.write(x, "c,1,00;c,");
            Check.same("an error in the text", -17, x.parse());
            Check.write(x, "c,1,00;");
            Check.same("a word of a text that was wrong", 1, x.parse());
        });
    }

    private static void parsing() {
        Check.sentence("(then nothing changes)", () -> {
            SpiralWords x = Check.cloudOf("ab,9,21;cd,3,12;");
            x.lay(false);
            x.setCanvas(40, 30);
            x.lay(false);
            Check.same("value(7)", 2, x.value(7));
            Check.write(x, "cd,7,03;ab,8,10;ef,1,00");
            Check.asks("parse", x, -33, x::parse);
            Check.same("value(7)", 2, x.value(7));
            Check.same("the first word's letter", 0, x.letter(0, 0));
            Check.same("the first word's weight", 9, x.word(0, 1));
            Check.same("parse's error again", -33, x.parse());
            x.append(';');
            Check.same("the text goes on where it ended", 3, x.parse());
        });
        Check.sentence("Undoable, if there is no syntax error.", () -> {
            SpiralWords x = new SpiralWords();
            Check.write(x, "a,1,00");
            x.parse();
            Check.refuses("undo after a syntax error", x, Check.STATE, x::undo);
            x.append(';');
            x.parse();
            Check.same("undo after a parse", 0, x.undo());
            for (int columns = 11; columns <= 14; columns++) {
                x.setCanvas(columns, 10);
            }
            x.append(';');
            x.parse();
            for (int left = 3; left >= 0; left--) {
                Check.same("a syntax error drops no state", left, x.undo());
            }
            Check.same("the oldest is there", 60, x.value(0));
        });
        Check.sentence("The text stays as it is.", () -> {
            SpiralWords x = Check.cloudOf("a,1,00;");
            Check.same("append behind it", 8, x.append('b'));
            x.parse();
            Check.same("the length after a syntax error", 8, x.clearText());
        });
        Check.sentence("A word that was there before, with the same letters, has the place that it had", () -> {
            SpiralWords x = Check.cloudOf("ab,5,10;c,5,02;");
            x.setWays(0, 2, 1);
            x.lay(false);
            int[] ab = TextTest.placeOf(x, 0);
            int[] c = TextTest.placeOf(x, 1);
            Check.write(x, "c,9,13;ab,1000,23;");
            x.parse();
            Check.place("the first is the second now", x, 1, ab);
            Check.place("the second is the first now", x, 0, c);
            Check.same("words with places", 2, x.value(6));
        });
        Check.sentence("the others have none", () -> {
            SpiralWords x = Check.cloudOf("ab,5,10;c,5,02;");
            x.setWays(0, 2, 1);
            x.lay(false);
            Check.write(x, "a,5,10;abc,5,10;ba,5,10;bb,5,10;d,5,02;");
            x.parse();
            for (int word = 0; word < 5; word++) {
                Check.noPlace("a word with other letters", x, word);
            }
            Check.write(x, "ab,5,10;");
            x.parse();
            Check.noPlace("a word that was there only before the last parse", x, 0);
        });
    }
}
