import java.lang.reflect.InvocationTargetException;
import java.lang.reflect.Method;
import java.util.ArrayList;
import java.util.Arrays;
import java.util.Comparator;
import java.util.List;
import java.util.Random;

/** Runs of calls by chance, always the same ones, on the program and on the model: the answers are alike. */
final class ModelTest {
    private static final int RUNS = 600;
    private static final int CALLS = 512;
    private static final int[] WRONG = {-1, -2, 256, 1000, 10000, Integer.MAX_VALUE, Integer.MIN_VALUE};
    private static final String LETTERS = "mkdt;0123456789 x\n\u00e9";
    private static final Check check = new Check();

    private final Random random;
    private final TwoKerbs program = new TwoKerbs();
    private final Model model = new Model();
    private final List<String> calls = new ArrayList<>();

    private ModelTest(int seed) {
        random = new Random(seed);
    }

    public static void main(String[] args) throws ReflectiveOperationException {
        for (int seed = 0; seed < RUNS; seed++) {
            new ModelTest(seed).run(faceByName());
        }
        check.end();
    }

    private static List<Method> faceByName() {
        List<Method> face = new ArrayList<>();
        for (Method method : TwoKerbs.class.getMethods()) {
            if (method.getDeclaringClass() == TwoKerbs.class) {
                face.add(method);
            }
        }
        face.sort(Comparator.comparing(Method::getName));
        return face;
    }

    private void run(List<Method> face) throws ReflectiveOperationException {
        boolean alike = tell(text());
        while (alike && calls.size() < CALLS) {
            int chance = random.nextInt(200);
            if (chance == 0 && calls.size() < CALLS - 160) {
                alike = tell(text());
            } else if (chance < 40) {
                Method method = face.get(random.nextInt(face.size()));
                alike = call(method, arguments(method));
            } else {
                alike = frequent(random.nextInt(5));
            }
        }
        check.holds("a run like the model's", alike);
    }

    /** The calls by which the state goes on, more often than chance would have them. */
    private boolean frequent(int which) throws ReflectiveOperationException {
        switch (which) {
            case 0: return call("tides", 1 + random.nextInt(random.nextInt(10) == 0 ? 99 : 5));
            case 1: return call("ties", random.nextInt(5), random.nextInt(2));
            case 2: return call("carries", random.nextInt(5), random.nextInt(8));
            case 3: return call("where", random.nextInt(5), random.nextInt(30));
            default: return call("meet", random.nextInt(5), random.nextInt(5));
        }
    }

    private boolean tell(String text) throws ReflectiveOperationException {
        boolean alike = call("clear");
        for (int i = 0; i < text.length() && alike; i++) {
            alike = call("type", (int) text.charAt(i));
        }
        return alike && call("towns");
    }

    private boolean call(String name, Integer... arguments) throws ReflectiveOperationException {
        Class<?>[] types = new Class<?>[arguments.length];
        Arrays.fill(types, int.class);
        return call(TwoKerbs.class.getMethod(name, types), arguments);
    }

    private boolean call(Method method, Integer[] arguments) throws ReflectiveOperationException {
        calls.add(method.getName() + Arrays.toString(arguments));
        Method twin = Model.class.getDeclaredMethod(method.getName(), method.getParameterTypes());
        Object want = twin.invoke(model, (Object[]) arguments);
        Object got;
        try {
            got = method.invoke(program, (Object[]) arguments);
        } catch (InvocationTargetException thrown) {
            got = thrown.getCause();
        }
        if (!want.equals(got)) {
            System.out.println("the program answered " + got + ", the model " + want + ": " + calls);
        }
        return want.equals(got);
    }

    private Integer[] arguments(Method method) {
        Integer[] arguments = new Integer[method.getParameterCount()];
        for (int i = 0; i < arguments.length; i++) {
            arguments[i] = argument();
        }
        return arguments;
    }

    private int argument() {
        int chance = random.nextInt(40);
        if (chance == 0) {
            return WRONG[random.nextInt(WRONG.length)];
        }
        if (chance < 4) {
            return random.nextInt(450);
        }
        return random.nextInt(chance < 12 ? 20 : 5);
    }

    /** A text that is right as a rule; of every four one has a letter changed, taken away or put in. */
    private String text() {
        StringBuilder text = new StringBuilder();
        int modulo = 2 + random.nextInt(19);
        if (random.nextInt(5) > 0) {
            text.append(item('m', modulo, random.nextInt(modulo), random.nextInt(modulo)));
        }
        int kerbs = 1 + random.nextInt(8);
        for (int k = 0; k < kerbs; k++) {
            text.append(item('k', random.nextInt(2), random.nextInt(random.nextInt(8) == 0 ? 20 : modulo)));
        }
        for (int k = 0; k < kerbs && text.length() < 120; k++) {
            if (random.nextInt(8) > 0) {
                text.append(item('d', k, random.nextInt(kerbs), 1 + random.nextInt(4)));
            }
        }
        int things = random.nextInt(6);
        for (int t = 0; t < things && text.length() < 145; t++) {
            text.append(item('t', random.nextInt(kerbs)));
        }
        if (random.nextInt(4) == 0) {
            spoil(text);
        }
        return text.toString();
    }

    private String item(char letter, int... numbers) {
        StringBuilder item = new StringBuilder().append(letter);
        for (int i = 0; i < numbers.length; i++) {
            item.append(i > 0 || random.nextInt(9) == 0 ? " " : "").append(numbers[i]);
        }
        return item.append(random.nextInt(30) == 0 ? " ;" : ";").toString();
    }

    private void spoil(StringBuilder text) {
        int at = random.nextInt(text.length());
        char letter = LETTERS.charAt(random.nextInt(LETTERS.length()));
        switch (random.nextInt(4)) {
            case 0: text.setCharAt(at, letter); break;
            case 1: text.deleteCharAt(at); break;
            case 2: text.insert(at, letter); break;
            default: text.setLength(at);
        }
    }
}
