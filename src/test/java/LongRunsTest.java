import java.util.function.LongSupplier;

/** All promises: long runs of calls, drawn from a fixed seed, held against PlainCloud answer by answer. */
public final class LongRunsTest {
    private static final int RUNS = 400;
    /** One call less than an object is used for: the last one is the digest. */
    private static final int CALLS = 511;

    private long seed;
    private int calls;
    private String last;
    private SpiralWords x;
    private PlainCloud plain;

    public static void main(String[] args) {
        LongRunsTest test = new LongRunsTest();
        for (int run = 1; run <= RUNS; run++) {
            test.run(run);
        }
        Check.end("LongRunsTest");
    }

    private int below(int bound) {
        seed = seed * 6364136223846793005L + 1442695040888963407L;
        return (int) ((seed >>> 33) % bound);
    }

    private int between(int least, int greatest) {
        return least + below(greatest - least + 1);
    }

    /** Mostly within the range, at times just beyond it or far away. */
    private int around(int least, int greatest) {
        switch (below(40)) {
            case 0: return least - 1;
            case 1: return greatest + 1;
            case 2: return below(2) == 0 ? Integer.MAX_VALUE : Integer.MIN_VALUE;
            case 3: return least;
            case 4: return greatest;
            default: return between(least, greatest);
        }
    }

    private int someWord() {
        return around(0, Math.max(0, plain.value(5) - 1));
    }

    private void run(int run) {
        seed = run * 977L;
        calls = 0;
        x = new SpiralWords();
        plain = new PlainCloud();
        last = "new SpiralWords()";
        while (calls < CALLS) {
            step(run);
        }
        compare(run, "digest()", x::digest, plain::digest);
    }

    private void step(int run) {
        int kind = below(100);
        if (kind < 2 || calls == 0) {
            write(run);
        } else if (kind < 45) {
            change(run);
        } else if (kind < 60) {
            boolean keep = below(3) > 0;
            both(run, "lay(" + keep + ")", () -> x.lay(keep), () -> plain.lay(keep));
        } else if (kind < 85) {
            look(run);
        } else {
            ask(run);
        }
    }

    private void write(int run) {
        if (below(4) > 0) {
            both(run, "clearText()", x::clearText, plain::clearText);
        }
        StringBuilder text = new StringBuilder();
        int words = below(3) == 0 ? between(0, 5) : between(5, 26);
        for (int i = 0; i < words; i++) {
            int most = words > 12 ? 3 : 10;
            for (int letters = between(1, most); letters > 0; letters--) {
                text.append((char) between('a', 'z'));
            }
            int weight = below(3) == 0 ? between(1, 9) : below(2) == 0 ? between(1, 99) : between(1, 1000);
            text.append(',').append(weight).append(',').append(below(3)).append(below(4)).append(';');
        }
        if (text.length() > 0 && below(6) == 0) {
            spoil(text);
        }
        for (int i = 0; i < text.length() && calls < CALLS; i++) {
            int value = text.charAt(i);
            both(run, "append(" + value + ")", () -> x.append(value), () -> plain.append(value));
        }
        both(run, "parse()", x::parse, plain::parse);
    }

    private void spoil(StringBuilder text) {
        int at = below(text.length());
        if (below(2) == 0) {
            text.setCharAt(at, ",;01239az".charAt(below(9)));
        } else {
            text.setLength(at);
        }
    }

    private void change(int run) {
        int word = someWord();
        switch (below(7)) {
            case 0: {
                int weight = around(1, below(2) == 0 ? 1000 : 20);
                both(run, "setWeight(" + word + ", " + weight + ")", () -> x.setWeight(word, weight),
                    () -> plain.setWeight(word, weight));
                break;
            }
            case 1: {
                int direction = around(0, 2);
                int group = around(0, 3);
                both(run, "setKind(" + word + ", " + direction + ", " + group + ")",
                    () -> x.setKind(word, direction, group), () -> plain.setKind(word, direction, group));
                break;
            }
            case 2: {
                int columns = around(10, 80);
                int rows = around(10, 50);
                both(run, "setCanvas(" + columns + ", " + rows + ")", () -> x.setCanvas(columns, rows),
                    () -> plain.setCanvas(columns, rows));
                break;
            }
            case 3: {
                int margin = around(0, 3);
                int stride = around(1, 4);
                int size = around(1, below(3) == 0 ? 8 : 3);
                both(run, "setWays(" + margin + ", " + stride + ", " + size + ")",
                    () -> x.setWays(margin, stride, size), () -> plain.setWays(margin, stride, size));
                break;
            }
            case 4: {
                if (below(4) == 0) {
                    both(run, "remove(" + word + ")", () -> x.remove(word), () -> plain.remove(word));
                }
                break;
            }
            case 5: {
                both(run, "undo()", x::undo, plain::undo);
                break;
            }
            default: {
                both(run, "parse()", x::parse, plain::parse);
            }
        }
    }

    private void look(int run) {
        int word = someWord();
        int what = around(0, 7);
        both(run, "word(" + word + ", " + what + ")", () -> x.word(word, what), () -> plain.word(word, what));
        both(run, "letter(" + word + ", " + what + ")", () -> x.letter(word, what), () -> plain.letter(word, what));
        both(run, "value(" + what + ")", () -> x.value(what), () -> plain.value(what));
        both(run, "place(" + word + ", " + what + ")", () -> x.place(word, what), () -> plain.place(word, what));
        int column = around(0, 79);
        int row = around(0, 49);
        both(run, "wordAt(" + column + ", " + row + ")", () -> x.wordAt(column, row),
            () -> plain.wordAt(column, row));
        both(run, "meetings()", x::meetings, plain::meetings);
        both(run, "extent(" + what + ")", () -> x.extent(what), () -> plain.extent(what));
        both(run, "spread(" + what + ")", () -> x.spread(what), () -> plain.spread(what));
        both(run, "covered()", () -> Double.doubleToLongBits(x.covered()),
            () -> Double.doubleToLongBits(plain.covered()));
        both(run, "digest()", x::digest, plain::digest);
    }

    private void ask(int run) {
        int word = someWord();
        int weight = around(1, below(2) == 0 ? 1000 : 20);
        int columns = around(10, 80);
        int rows = around(10, 50);
        boolean keep = below(2) == 0;
        switch (below(4)) {
            case 0:
                both(run, "placedOn(" + columns + ", " + rows + ", " + keep + ")",
                    () -> x.placedOn(columns, rows, keep), () -> plain.placedOn(columns, rows, keep));
                break;
            case 1:
                both(run, "narrowest()", x::narrowest, plain::narrowest);
                break;
            case 2:
                both(run, "movedBy(" + word + ", " + weight + ")", () -> x.movedBy(word, weight),
                    () -> plain.movedBy(word, weight));
                break;
            default:
                both(run, "bestStride()", x::bestStride, plain::bestStride);
        }
    }

    private void both(int run, String call, LongSupplier own, LongSupplier other) {
        if (calls < CALLS) {
            compare(run, call, own, other);
        }
    }

    /** Makes the call on both, and holds the answers, or the exceptions, against each other. */
    private void compare(int run, String call, LongSupplier own, LongSupplier other) {
        calls++;
        String due = answer(other);
        String got = answer(own);
        Check.that("run " + run + ", call " + calls + ", " + call + " after " + last + " answers " + due + ", not "
            + got + "; this", due.equals(got));
        last = call;
    }

    private static String answer(LongSupplier call) {
        try {
            return String.valueOf(call.getAsLong());
        } catch (RuntimeException e) {
            return "throws." + e.getClass().getSimpleName();
        }
    }
}
