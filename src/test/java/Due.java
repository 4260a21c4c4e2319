import java.lang.reflect.InvocationTargetException;
import java.lang.reflect.Method;
import java.util.Arrays;
import java.util.Comparator;
import java.util.function.IntToDoubleFunction;

/** Compares answers with those that are due, counts the wrong ones, and makes the bridges of the tests. */
final class Due {
    static final int NOT_FOUND = SpanPainter.NOT_FOUND;
    static final int UNCHANGED = SpanPainter.UNCHANGED;
    static final int REFUSED = SpanPainter.REFUSED;
    static final int GIVEN_UP = SpanPainter.GIVEN_UP;
    static final int FULL = SpanPainter.FULL;
    static final int BAD_TEXT = SpanPainter.BAD_TEXT;

    private static int wrong = 0;
    private static String test = "";

    /** A call of which only what it throws is wanted. */
    interface Call {
        double make();
    }

    private Due() { }

    /** Runs all static methods of a class whose names begin with promise or section, and ends the program. */
    static void runAll(Class<?> tests) throws Exception {
        Method[] methods = tests.getDeclaredMethods();
        Arrays.sort(methods, Comparator.comparing(Method::getName));
        int count = 0;
        for (Method method : methods) {
            if (method.getName().startsWith("promise") || method.getName().startsWith("section")) {
                test = method.getName();
                method.setAccessible(true);
                count++;
                try {
                    method.invoke(null);
                } catch (InvocationTargetException thrown) {
                    wrong++;
                    System.out.println(test + ": a call threw " + thrown.getCause());
                }
            }
        }
        System.out.println(tests.getName() + ": " + count + " tests, " + wrong + " wrong answers");
        System.exit(wrong == 0 && count > 0 ? 0 : 1);
    }

    static void is(String what, double got, double due) {
        if (got != due) {
            wrong++;
            System.out.println(test + ": " + what + " answered " + told(got) + ", due is " + told(due));
        }
    }

    static void text(String what, String got, String due) {
        if (!got.equals(due)) {
            wrong++;
            System.out.println(test + ": " + what + " answered '" + got + "', due is '" + due + "'");
        }
    }

    private static String told(double number) {
        return number == Math.rint(number) ? String.valueOf((long) number) : String.valueOf(number);
    }

    static void noIndex(String what, Call call) {
        fails(what, call, IndexOutOfBoundsException.class);
    }

    static void noArgument(String what, Call call) {
        fails(what, call, IllegalArgumentException.class);
    }

    private static void fails(String what, Call call, Class<?> due) {
        text(what, outcome(call), due.getName());
    }

    /** What a call answers, or the name of what it throws; an index of a Java array would throw one of the subclasses. */
    static String outcome(Call call) {
        try {
            return told(call.make());
        } catch (RuntimeException thrown) {
            return thrown.getClass().getName();
        }
    }

    /** Calls with indexes that do not exist: the nearest ones, and such as wrap around to one that does. */
    static void noIndexBeyond(String what, int count, IntToDoubleFunction call) {
        int[] indexes = {-1, count, count + 1, 16, 31, 32, 33, 256, 1000, 65536, -16, -32, -256, Integer.MIN_VALUE,
            Integer.MIN_VALUE + 1, Integer.MAX_VALUE};
        for (int index : indexes) {
            if (index < 0 || index >= count) {
                noIndex(what + " with " + index, () -> call.applyAsDouble(index));
            }
        }
    }

    /** Calls with values out of a range: the nearest ones, and such as wrap around to one in the range. */
    static void noArgumentBeyond(String what, int least, int most, IntToDoubleFunction call) {
        int[] values = {least - 1, most + 1, least + 256, most + 256, least + 65536, least - 256, -most - 1, Integer.MIN_VALUE,
            Integer.MIN_VALUE + least, Integer.MAX_VALUE};
        for (int value : values) {
            if (value < least || value > most) {
                noArgument(what + " with " + value, () -> call.applyAsDouble(value));
            }
        }
    }

    /** Feeds a text, filled up with bytes that would be illegal tokens. */
    static void feed(SpanPainter painter, String text) {
        for (int start = 0; start < text.length(); start += 20) {
            int[] parts = new int[5];
            for (int index = start; index < start + 20; index++) {
                int sign = index < text.length() ? text.charAt(index) : '?';
                parts[(index - start) / 4] |= sign << 24 - 8 * ((index - start) % 4);
            }
            painter.feed(parts[0], parts[1], parts[2], parts[3], parts[4]);
        }
    }

    static int load(SpanPainter painter, String text) {
        feed(painter, text);
        return painter.load(text.length());
    }

    static SpanPainter bridge(String text) {
        SpanPainter painter = new SpanPainter();
        if (load(painter, text) < 0) {
            wrong++;
            System.out.println(test + ": the text of a test is not legal at " + painter.errorPosition() + ": " + text);
        }
        return painter;
    }

    /** The plan as write() tells it. */
    static String plan(SpanPainter painter) {
        StringBuilder told = new StringBuilder();
        int size = painter.write();
        for (int index = 0; index < size; index++) {
            told.append((char) painter.outputByte(index));
        }
        return told.toString();
    }
}
