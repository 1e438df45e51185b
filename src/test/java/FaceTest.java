import java.io.IOException;
import java.lang.reflect.Constructor;
import java.lang.reflect.Field;
import java.lang.reflect.Method;
import java.lang.reflect.Modifier;
import java.nio.file.Files;
import java.nio.file.Path;
import java.util.Arrays;
import java.util.List;
import java.util.Set;
import java.util.TreeSet;

/** The public face, and the rules of ../shared/LANGUAGE.md that a look at the file can tell. */
public final class FaceTest {
    private static final List<String> FACE = List.of("int append(int)", "int clearText()", "int parse()",
        "int setWeight(int,int)", "int setKind(int,int,int)", "int remove(int)", "int setCanvas(int,int)",
        "int setWays(int,int,int)", "int word(int,int)", "int letter(int,int)", "int value(int)", "int lay(boolean)",
        "int place(int,int)", "int wordAt(int,int)", "int meetings()", "int extent(int)", "double covered()",
        "int spread(int)", "int placedOn(int,int,boolean)", "int narrowest()", "int movedBy(int,int)",
        "int bestStride()", "int undo()", "long digest()");
    private static final List<String> NOT_ALLOWED = List.of("import ", "package ", "->", "::", "finally", "catch",
        "synchronized", "assert ", "instanceof", "Exact(", "System.out", "Throwable", "static {", "double[]",
        "protected ", "HashMap", "Object ", "+ \"", "\" +");

    public static void main(String[] args) throws IOException {
        theFaceIsTheDocuments();
        nothingElseIsSeen();
        theSourceKeepsToTheLanguage();
        Check.end("FaceTest");
    }

    private static String signature(Method method) {
        String arguments = String.join(",", Arrays.stream(method.getParameterTypes()).map(Class::getName).toList());
        return method.getReturnType().getName() + " " + method.getName() + "(" + arguments + ")";
    }

    private static void theFaceIsTheDocuments() {
        Set<String> got = new TreeSet<>();
        for (Method method : SpiralWords.class.getDeclaredMethods()) {
            if (Modifier.isPublic(method.getModifiers())) {
                got.add(signature(method));
                Check.that(method.getName() + " is no static method", !Modifier.isStatic(method.getModifiers()));
            }
        }
        Check.that("the face is " + FACE + ", not " + got + "; this", got.equals(new TreeSet<>(FACE)));
        Check.that("the class is final", Modifier.isFinal(SpiralWords.class.getModifiers()));
        Check.same("NONE", -1, SpiralWords.NONE);
    }

    private static void nothingElseIsSeen() {
        Set<String> names = new TreeSet<>();
        FACE.forEach(line -> names.add(line.substring(line.indexOf(' ') + 1, line.indexOf('('))));
        for (Method method : SpiralWords.class.getDeclaredMethods()) {
            int kind = method.getModifiers();
            Check.that(method + " is public or private", Modifier.isPublic(kind) || Modifier.isPrivate(kind));
            Check.that(method + " has a name of its own", Modifier.isPublic(kind) || !names.contains(method.getName()));
        }
        for (Field field : SpiralWords.class.getDeclaredFields()) {
            boolean none = field.getName().equals("NONE");
            Check.that(field + " is private", none || Modifier.isPrivate(field.getModifiers()));
            Check.that(field + " is final", Modifier.isFinal(field.getModifiers()));
        }
        Constructor<?>[] constructors = SpiralWords.class.getDeclaredConstructors();
        Check.same("constructors", 1, constructors.length);
        Check.same("arguments of the constructor", 0, constructors[0].getParameterCount());
        Check.that("12 classes at the most", SpiralWords.class.getDeclaredClasses().length < 12);
        for (Class<?> inside : SpiralWords.class.getDeclaredClasses()) {
            Check.that(inside + " is private and static",
                Modifier.isPrivate(inside.getModifiers()) && Modifier.isStatic(inside.getModifiers()));
        }
    }

    private static void theSourceKeepsToTheLanguage() throws IOException {
        List<String> lines = Files.readAllLines(Path.of("src", "main", "java", "SpiralWords.java"));
        int made = 0;
        for (String line : lines) {
            for (String word : NOT_ALLOWED) {
                Check.that("'" + word + "' stands in '" + line.trim() + "', what", !line.contains(word));
            }
            Check.that("signs 1 to 127 in '" + line + "'", line.chars().allMatch(sign -> sign > 0 && sign < 128));
            made += line.contains("new ") && !line.contains("throw new ") ? 1 : 0;
        }
        // All of them stand in constructors: a call makes no object but an exception.
        Check.same("lines that make an object or an array", 17, made);
    }
}
