import java.io.IOException;
import java.lang.reflect.Constructor;
import java.lang.reflect.Field;
import java.lang.reflect.Method;
import java.lang.reflect.Modifier;
import java.nio.charset.StandardCharsets;
import java.nio.file.Files;
import java.nio.file.Path;
import java.util.Arrays;
import java.util.Set;
import java.util.TreeSet;
import java.util.regex.Matcher;
import java.util.regex.Pattern;

/** The public face as the document prints it, and rules of LANGUAGE.md that can be seen from outside. */
final class FaceTest {
    private static final Check check = new Check();
    private static final Set<String> METHODS = new TreeSet<>(Arrays.asList(
            "int type(int)", "int clear()", "int towns()", "int kerb(int,int)", "int thing(int,int)",
            "int now(int)", "int tides(int)", "int ties(int,int)", "int carries(int,int)", "int undo()",
            "int level(int)", "int high(int)", "int flood(int)", "int where(int,int)", "int when(int,int)",
            "int send(int,int,int)", "int meet(int,int)", "int round(int)", "int odds(int,int,int,int,int)",
            "int found(int,int)", "int began()", "int saw(int,int)", "int laws(int)", "int forget()",
            "int rate(int,int)", "int keep(int)", "int back(int)", "int count(int)", "long trace()"));
    private static final Pattern FORBIDDEN = Pattern.compile(
            "\\b(throw|throws|try|catch|synchronized|assert)\\b|->|::");

    public static void main(String[] args) throws IOException {
        constants();
        constructors();
        methods();
        fields();
        nestedClasses();
        source();
        check.end();
    }

    private static void constants() {
        check.due("BAD", TwoKerbs.BAD, -1);
        check.due("STATE", TwoKerbs.STATE, -2);
        check.due("FULL", TwoKerbs.FULL, -3);
        check.due("NONE", TwoKerbs.NONE, -9);
        check.due("NO", TwoKerbs.NO, -1000000);
    }

    private static void constructors() {
        Constructor<?>[] all = TwoKerbs.class.getDeclaredConstructors();
        check.due("constructors", all.length, 1);
        check.holds("the constructor is public", Modifier.isPublic(all[0].getModifiers()));
        check.due("its parameters", all[0].getParameterCount(), 0);
        int modifiers = TwoKerbs.class.getModifiers();
        check.holds("public and final", Modifier.isPublic(modifiers) && Modifier.isFinal(modifiers));
    }

    private static void methods() {
        Set<String> face = new TreeSet<>();
        Set<String> names = new TreeSet<>();
        for (Method method : TwoKerbs.class.getDeclaredMethods()) {
            if (!Modifier.isPrivate(method.getModifiers())) {
                check.holds(method + " is public", Modifier.isPublic(method.getModifiers()));
                face.add(headOf(method));
                names.add(method.getName());
            }
        }
        check.holds("the methods are those of the document: " + face, face.equals(METHODS));
        for (Method method : TwoKerbs.class.getDeclaredMethods()) {
            if (Modifier.isPrivate(method.getModifiers())) {
                check.holds(method + " has a name of its own", !names.contains(method.getName()));
            }
        }
    }

    private static String headOf(Method method) {
        StringBuilder head = new StringBuilder();
        for (Class<?> type : method.getParameterTypes()) {
            head.append(head.length() == 0 ? "" : ",").append(type.getName());
        }
        return method.getReturnType() + " " + method.getName() + "(" + head + ")";
    }

    private static void fields() {
        Set<String> face = new TreeSet<>();
        for (Field field : TwoKerbs.class.getDeclaredFields()) {
            int modifiers = field.getModifiers();
            if (!Modifier.isPrivate(modifiers)) {
                face.add(field.getName());
            }
            check.holds(field + " is no changing static one",
                    !Modifier.isStatic(modifiers) || Modifier.isFinal(modifiers));
        }
        check.holds("the constants are those of the document: " + face,
                face.equals(new TreeSet<>(Arrays.asList("BAD", "STATE", "FULL", "NONE", "NO"))));
    }

    private static void nestedClasses() {
        for (Class<?> nested : TwoKerbs.class.getDeclaredClasses()) {
            check.holds(nested + " is static", Modifier.isStatic(nested.getModifiers()));
            check.holds(nested + " is not public", !Modifier.isPublic(nested.getModifiers()));
        }
        check.holds("twelve classes at most", TwoKerbs.class.getDeclaredClasses().length < 12);
    }

    private static void source() throws IOException {
        String code = Files.readString(Path.of("src/main/java/TwoKerbs.java"), StandardCharsets.ISO_8859_1);
        String bare = code.replaceAll("(?s)/\\*.*?\\*/", "").replaceAll("//[^\n]*", "");
        Matcher matcher = FORBIDDEN.matcher(bare);
        while (matcher.find()) {
            check.holds("no " + matcher.group() + " in the source", false);
        }
        check.holds("letters 1 to 127 alone", code.chars().allMatch(c -> c > 0 && c < 128));
    }
}
