/** Counts what a test finds; prints every call whose answer is not the one that is due. */
final class Check {
    static final Class<IllegalArgumentException> ARGUMENT = IllegalArgumentException.class;
    static final Class<IllegalStateException> STATE = IllegalStateException.class;
    static final Class<IndexOutOfBoundsException> INDEX = IndexOutOfBoundsException.class;

    /** Far from every range of the document. */
    static final int[] FAR = {Integer.MIN_VALUE, Integer.MIN_VALUE + 1, Integer.MAX_VALUE - 1, Integer.MAX_VALUE};

    private static int passed;
    private static int failed;
    private static String sentence = "";

    interface Call {
        void run();
    }

    private Check() {
    }

    /** The test of one sentence of the document: each of its complaints names the sentence. */
    static void sentence(String words, Call test) {
        sentence = "\"" + words + "\": ";
        int before = passed + failed;
        try {
            test.run();
        } catch (RuntimeException e) {
            count(false, "a call threw " + e);
        }
        count(passed + failed > before, "it has no check");
        sentence = "";
    }

    static void same(String call, long due, long got) {
        count(due == got, call + " answered " + got + ", due is " + due);
    }

    static void sameDouble(String call, double due, double got) {
        count(due == got, call + " answered " + got + ", due is " + due);
    }

    static void that(String what, boolean holds) {
        count(holds, what + " does not hold");
    }

    /** The call throws just this exception and leaves the object as it was. */
    static void refuses(String name, SpiralWords x, Class<? extends Exception> due, Call call) {
        long before = x.digest();
        Class<?> got = null;
        try {
            call.run();
        } catch (RuntimeException e) {
            got = e.getClass();
        }
        count(got == due, name + " threw " + got + ", due is " + due);
        count(before == x.digest(), name + " changed the state");
    }

    /** A what-if question answers this and leaves the object as it was. */
    static void asks(String name, SpiralWords x, long due, java.util.function.IntSupplier call) {
        long before = x.digest();
        same(name, due, call.getAsInt());
        count(before == x.digest(), name + " changed the state");
    }

    static void place(String name, SpiralWords x, int word, int... due) {
        for (int what = 0; what < due.length; what++) {
            same(name + ": place(" + word + ", " + what + ")", due[what], x.place(word, what));
        }
    }

    static void noPlace(String name, SpiralWords x, int word) {
        place(name, x, word, -1, -1, -1, -1, -1);
    }

    static void write(SpiralWords x, String text) {
        x.clearText();
        for (int i = 0; i < text.length(); i++) {
            x.append(text.charAt(i));
        }
    }

    static SpiralWords cloudOf(String text) {
        SpiralWords x = new SpiralWords();
        write(x, text);
        x.parse();
        return x;
    }

    /** That many words of one letter, "a" and on, with the weight 1 and this kind. */
    static SpiralWords letters(int count, String kind) {
        StringBuilder text = new StringBuilder();
        for (int i = 0; i < count; i++) {
            text.append((char) ('a' + i)).append(",1,").append(kind).append(';');
        }
        return cloudOf(text.toString());
    }

    /** Reads a text, sets the canvas and lays the cloud, places kept: a new word of a new group stands in the middle. */
    static void grow(SpiralWords x, String text, int columns, int rows) {
        write(x, text);
        x.parse();
        x.setCanvas(columns, rows);
        x.lay(true);
    }

    private static void count(boolean right, String complaint) {
        if (right) {
            passed++;
        } else {
            failed++;
            System.out.println(sentence + complaint);
        }
    }

    static void end(String test) {
        System.out.println(test + ": " + passed + " checks as due, " + failed + " not");
        if (failed > 0 || passed == 0) {
            System.exit(1);
        }
    }
}
