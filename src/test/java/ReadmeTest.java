import java.io.IOException;
import java.nio.file.Files;
import java.nio.file.Path;
import java.util.ArrayList;
import java.util.List;
import java.util.regex.Matcher;
import java.util.regex.Pattern;

/** The calls of README.md's example, with the answers that stand behind them there. */
public final class ReadmeTest {
    private static final Pattern ANSWERED = Pattern.compile("(x\\.\\w+\\(.*\\);) +// (-?\\d+(?:\\.\\d+)?)\\b.*");

    private static final List<String> got = new ArrayList<>();

    public static void main(String[] args) throws IOException {
        List<String> told = new ArrayList<>();
        for (String line : Files.readAllLines(Path.of("README.md"))) {
            Matcher matcher = ANSWERED.matcher(line);
            if (matcher.matches()) {
                told.add(matcher.group(1) + " " + matcher.group(2));
            }
        }
        runTheExample();
        for (int i = 0; i < Math.max(told.size(), got.size()); i++) {
            String page = i < told.size() ? told.get(i) : "nothing more";
            String program = i < got.size() ? got.get(i) : "nothing more";
            Check.that("README.md tells '" + page + "', the program '" + program + "': that both are the same",
                page.equals(program));
        }
        Check.end("ReadmeTest");
    }

    private static void answer(String call, Object answer) {
        got.add(call + "; " + answer);
    }

    private static void runTheExample() {
        SpiralWords x = new SpiralWords();
        String text = "alpha,100,00;beta,50,20;go,50,11;at,30,01;";
        for (int i = 0; i < text.length(); i++) {
            x.append(text.charAt(i));
        }
        textAndWords(x);
        laying(x);
        whatIf(x);
        state(x);
    }

    private static void textAndWords(SpiralWords x) {
        answer("x.parse()", x.parse());
        answer("x.clearText()", x.clearText());
        answer("x.setWeight(1, 80)", x.setWeight(1, 80));
        answer("x.setKind(2, 2, 0)", x.setKind(2, 2, 0));
        answer("x.remove(3)", x.remove(3));
        answer("x.setCanvas(40, 20)", x.setCanvas(40, 20));
        answer("x.setWays(1, 2, 4)", x.setWays(1, 2, 4));
        answer("x.word(1, 5)", x.word(1, 5));
        answer("x.letter(2, 0)", x.letter(2, 0));
        answer("x.value(5)", x.value(5));
    }

    private static void laying(SpiralWords x) {
        answer("x.lay(false)", x.lay(false));
        answer("x.place(0, 0)", x.place(0, 0));
        answer("x.place(0, 2)", x.place(0, 2));
        answer("x.place(1, 4)", x.place(1, 4));
        answer("x.wordAt(24, 16)", x.wordAt(24, 16));
        answer("x.wordAt(0, 0)", x.wordAt(0, 0));
        answer("x.meetings()", x.meetings());
        answer("x.extent(0)", x.extent(0));
        answer("x.covered()", x.covered());
        answer("x.spread(0)", x.spread(0));
        answer("x.setWeight(2, 90)", x.setWeight(2, 90));
        answer("x.lay(true)", x.lay(true));
        answer("x.value(7)", x.value(7));
    }

    private static void whatIf(SpiralWords x) {
        answer("x.placedOn(20, 10, false)", x.placedOn(20, 10, false));
        answer("x.narrowest()", x.narrowest());
        answer("x.movedBy(1, 1)", x.movedBy(1, 1));
        answer("x.bestStride()", x.bestStride());
    }

    private static void state(SpiralWords x) {
        answer("x.undo()", x.undo());
        answer("x.value(7)", x.value(7));
        answer("x.undo()", x.undo());
        answer("x.word(2, 1)", x.word(2, 1));
        answer("x.digest()", x.digest());
    }
}
