import java.lang.reflect.InvocationTargetException;
import java.lang.reflect.Method;
import java.util.Arrays;
import java.util.List;

/**
 * Each bound of each argument of each call: the numbers just within it are taken, those just beyond it (and the
 * least and the greatest int) are BAD, or NO, and nothing is changed then.
 */
final class BoundsTest {
    private static final Check check = new Check();

    /** A range of numbers, and one of them that stands there while another argument is looked at. */
    private record Range(int least, int most, int usual) {
        static Range of(int least, int most) {
            return new Range(least, most, least);
        }

        boolean isEmpty() {
            return most < least;
        }
    }

    private record Call(String name, int refused, Range... ranges) { }

    public static void main(String[] args) throws ReflectiveOperationException {
        lookAt("none");
        lookAt("some");
        lookAt("all");
        check.end();
    }

    /** Nothing told; three kerbs and things with all that can be kept; as many of both as there may be. */
    private static TwoKerbs made(String state) {
        if (state.equals("none")) {
            return new TwoKerbs();
        }
        TwoKerbs x = Check.told(state.equals("some") ? "m12 5 7;k0 4;k1 9;k0 2;d0 1 2;d1 2 4;t2;t0;t0;"
                : "k0 1;k1 2;k0 3;k1 4;k0 5;k1 6;k0 7;k1 8;d0 7 4;d7 0 3;t0;t1;t2;t3;t7;");
        x.ties(2, 1);
        x.keep(0);
        x.tides(2);
        x.keep(1);
        x.found(0, 1);
        x.saw(1, 0);
        x.rate(4, 1);
        Check.type(x, "k1 7;t0;");
        return x;
    }

    private static List<Call> calls(int kerbs, int things) {
        Range k = Range.of(0, kerbs - 1);
        Range t = Range.of(0, things - 1);
        Range tide = Range.of(0, 9999);
        Range two = Range.of(0, 1);
        int bad = TwoKerbs.BAD;
        return List.of(
                new Call("type", bad, Range.of(0, 255)), new Call("kerb", bad, k, Range.of(0, 4)),
                new Call("thing", bad, t, Range.of(0, 3)), new Call("now", bad, Range.of(0, 4)),
                new Call("tides", bad, Range.of(1, 99)), new Call("ties", bad, t, two),
                new Call("carries", bad, t, k), new Call("level", bad, tide),
                new Call("high", bad, Range.of(0, 19)), new Call("flood", bad, tide),
                new Call("where", bad, t, Range.of(0, 400)), new Call("when", bad, t, k),
                new Call("send", bad, t, k, two), new Call("round", bad, t),
                // Alike ones are BAD, so that 1 stands still while 0 or the last one is looked at.
                new Call("meet", bad, new Range(0, things - 1, 1), new Range(0, things - 1, 1)),
                new Call("odds", bad, t, k, Range.of(0, 4), Range.of(0, 10), two),
                new Call("found", bad, k, Range.of(0, 99)), new Call("saw", bad, Range.of(0, 99), Range.of(0, 19)),
                new Call("laws", bad, two), new Call("rate", TwoKerbs.NO, Range.of(0, 5), k),
                new Call("keep", bad, two), new Call("back", bad, two), new Call("count", bad, Range.of(0, 7)));
    }

    private static void lookAt(String state) throws ReflectiveOperationException {
        TwoKerbs x = made(state);
        String unchanged = Look.through(made(state));
        for (Call call : calls(x.count(0), x.count(1))) {
            for (int which = 0; which < call.ranges.length; which++) {
                Range range = call.ranges[which];
                int[] wrong = {range.least - 1, range.most + 1, Integer.MIN_VALUE, Integer.MAX_VALUE};
                for (int number : wrong) {
                    isRefused(state, call, with(call, which, number), unchanged);
                }
                if (!range.isEmpty()) {
                    isTaken(state, call, with(call, which, range.least));
                    isTaken(state, call, with(call, which, range.most));
                }
            }
        }
    }

    private static Object[] with(Call call, int which, int number) {
        Object[] numbers = new Object[call.ranges.length];
        for (int i = 0; i < numbers.length; i++) {
            numbers[i] = i == which ? number : call.ranges[i].usual;
        }
        return numbers;
    }

    private static void isRefused(String state, Call call, Object[] numbers, String unchanged)
            throws ReflectiveOperationException {
        TwoKerbs x = made(state);
        String told = state + ": " + call.name + Arrays.toString(numbers);
        check.due(told, answer(x, call, numbers), call.refused);
        check.holds(told + " changes nothing", Look.through(x).equals(unchanged));
    }

    /** The other numbers must be there to be taken, too. */
    private static void isTaken(String state, Call call, Object[] numbers) throws ReflectiveOperationException {
        for (Range range : call.ranges) {
            if (range.isEmpty()) {
                return;
            }
        }
        String told = state + ": " + call.name + Arrays.toString(numbers);
        int answer = answer(made(state), call, numbers);
        check.holds(told + " is not refused for its numbers", answer != call.refused);
    }

    private static int answer(TwoKerbs x, Call call, Object[] numbers) throws ReflectiveOperationException {
        Class<?>[] types = new Class<?>[numbers.length];
        Arrays.fill(types, int.class);
        Method method = TwoKerbs.class.getMethod(call.name, types);
        try {
            return (int) method.invoke(x, numbers);
        } catch (InvocationTargetException thrown) {
            throw new IllegalStateException(call.name + Arrays.toString(numbers) + " threw", thrown.getCause());
        }
    }
}
