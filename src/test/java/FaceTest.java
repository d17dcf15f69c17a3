import java.io.IOException;
import java.lang.reflect.Constructor;
import java.lang.reflect.Field;
import java.lang.reflect.Method;
import java.lang.reflect.Modifier;
import java.nio.charset.StandardCharsets;
import java.nio.file.Files;
import java.nio.file.Path;
import java.util.ArrayList;
import java.util.Arrays;
import java.util.List;
import java.util.Set;
import java.util.TreeSet;
import java.util.regex.Matcher;
import java.util.regex.Pattern;

/** The public face just as the document prints it, and nothing beside it (rule 1 of LANGUAGE.md). */
final class FaceTest {
    private static final Check check = new Check();
    private static final String SOURCE = "src/main/java/TwoKerbs.java";
    private static final String DOCUMENT = "../shared/DOC.md";
    private static final Set<String> METHODS = new TreeSet<>(Arrays.asList(
            "int type(int)", "int clear()", "int towns()", "int kerb(int,int)", "int thing(int,int)",
            "int now(int)", "int tides(int)", "int ties(int,int)", "int carries(int,int)", "int undo()",
            "int level(int)", "int high(int)", "int flood(int)", "int where(int,int)", "int when(int,int)",
            "int send(int,int,int)", "int meet(int,int)", "int round(int)", "int odds(int,int,int,int,int)",
            "int found(int,int)", "int began()", "int saw(int,int)", "int laws(int)", "int forget()",
            "int rate(int,int)", "int keep(int)", "int back(int)", "int count(int)", "long trace()"));

    public static void main(String[] args) throws IOException {
        printedFace();
        promisedCalls();
        constants();
        constructors();
        methods();
        fields();
        nestedClasses();
        check.end();
    }

    /** Line by line what the document prints, with the names of the parameters, and in its order. */
    private static void printedFace() throws IOException {
        List<String> printed = new ArrayList<>();
        String document = read(DOCUMENT);
        int begin = document.indexOf("```java\n", document.indexOf("## The public face")) + 8;
        for (String line : document.substring(begin, document.indexOf("```", begin)).split("\n")) {
            printed.add(line.replaceAll("[;{ ]+$", ""));
        }
        List<String> written = new ArrayList<>();
        for (String line : read(SOURCE).split("\n")) {
            // What stands deeper than four blanks belongs to the classes inside.
            if (line.matches("( {4})?public .*")) {
                written.add(line.replaceAll("[;{ ]+$", ""));
            }
        }
        written.add("}");
        check.due("lines of the printed face", printed.size(), 34);
        check.holds("the face is printed so: " + printed + " and written so: " + written, printed.equals(written));
    }

    /** Each promise names its call just as the face does. */
    private static void promisedCalls() throws IOException {
        Matcher promise = Pattern.compile("(?m)^## Promise (\\d+): .*\n\n`([^`]+)`").matcher(read(DOCUMENT));
        String source = read(SOURCE);
        int promises = 0;
        while (promise.find()) {
            promises++;
            check.due("number of the promise", Integer.parseInt(promise.group(1)), promises);
            check.holds(promise.group(2) + " is written", source.contains("    public " + promise.group(2) + " {\n"));
        }
        check.due("promises", promises, 30);
    }

    private static String read(String path) throws IOException {
        return Files.readString(Path.of(path), StandardCharsets.ISO_8859_1);
    }

    private static void constants() {
        check.due("BAD", TwoKerbs.BAD, -1);
        check.due("STATE", TwoKerbs.STATE, -2);
        check.due("FULL", TwoKerbs.FULL, -3);
        check.due("NONE", TwoKerbs.NONE, -9);
        check.due("NO", TwoKerbs.NO, -1000000);
    }

    private static void constructors() {
        Constructor<?>[] all = TwoKerbs.class.getDeclaredConstructors();
        check.due("constructors", all.length, 1);
        check.holds("the constructor is public", Modifier.isPublic(all[0].getModifiers()));
        check.due("its parameters", all[0].getParameterCount(), 0);
        int modifiers = TwoKerbs.class.getModifiers();
        check.holds("public and final", Modifier.isPublic(modifiers) && Modifier.isFinal(modifiers));
    }

    private static void methods() {
        Set<String> face = new TreeSet<>();
        Set<String> names = new TreeSet<>();
        for (Method method : TwoKerbs.class.getDeclaredMethods()) {
            if (!Modifier.isPrivate(method.getModifiers())) {
                check.holds(method + " is public", Modifier.isPublic(method.getModifiers()));
                face.add(headOf(method));
                names.add(method.getName());
            }
        }
        check.holds("the methods are those of the document: " + face, face.equals(METHODS));
        for (Method method : TwoKerbs.class.getDeclaredMethods()) {
            if (Modifier.isPrivate(method.getModifiers())) {
                check.holds(method + " has a name of its own", !names.contains(method.getName()));
            }
        }
    }

    private static String headOf(Method method) {
        StringBuilder head = new StringBuilder();
        for (Class<?> type : method.getParameterTypes()) {
            head.append(head.length() == 0 ? "" : ",").append(type.getName());
        }
        return method.getReturnType() + " " + method.getName() + "(" + head + ")";
    }

    private static void fields() {
        Set<String> face = new TreeSet<>();
        for (Field field : TwoKerbs.class.getDeclaredFields()) {
            int modifiers = field.getModifiers();
            if (!Modifier.isPrivate(modifiers)) {
                face.add(field.getName());
            }
            check.holds(field + " is no changing static one",
                    !Modifier.isStatic(modifiers) || Modifier.isFinal(modifiers));
        }
        check.holds("the constants are those of the document: " + face,
                face.equals(new TreeSet<>(Arrays.asList("BAD", "STATE", "FULL", "NONE", "NO"))));
    }

    private static void nestedClasses() {
        for (Class<?> nested : TwoKerbs.class.getDeclaredClasses()) {
            check.holds(nested + " is static", Modifier.isStatic(nested.getModifiers()));
            check.holds(nested + " is not public", !Modifier.isPublic(nested.getModifiers()));
        }
    }
}
