import java.lang.reflect.InvocationTargetException;
import java.lang.reflect.Method;

/** The indexes of all calls, one too small and one too large, in bridges that have more of this and less of that. */
public final class IndexBoundsTest {
    /**
     * Each method with a year (y), a span (s), a lane (l) or a gang (g) and its arguments; the others are any number (i),
     * a value that fits (v) or a boolean (b). The rank of urgent() is one of a span.
     */
    private static final String[] CALLS = {
        "06 rustBefore sy", "07 rustAfter sy", "08 guardLeft sy", "09 pastYear s", "11 pastSpans y", "12 rustiest y",
        "13 averageRust y", "14 urgent s", "15 unpaintedPast s", "16 coatsNeeded s", "17 latestPainting si", "18 harmlessRate s",
        "19 effort sy", "20 capacity gy", "21 loadOf gy", "22 gangOf sy", "23 paintedSpans y", "24 lanesShut y", "26 daysUsed gy",
        "27 laneDays ly", "28 trafficLoss y", "29 wages y", "33 idleDays g", "36 refusal ysg", "37 possibleGangs ys",
        "38 firstPossible s", "39 bestPainting s", "40 shutYears l", "41 needlessPaintings y", "42 sufficientSpeed g",
        "43 paint ysg", "44 unpaint ys", "45 movePainting syy", "46 exchange yss", "47 setWeather yv", "49 setClosed lyb",
        "50 setRate sv", "51 setSpeed gv", "58 autoPastWithout g"
    };
    /** Years, lanes, spans and gangs. */
    private static final int[][] COUNTS = {
        {2, 3, 7, 5}, {9, 1, 2, 4}, {5, 4, 1, 2}, {12, 2, 4, 1}, {1, 1, 12, 3}, {4, 3, 2, 1}, {6, 0, 5, 4}, {3, 4, 0, 5}, {8, 2, 9, 0},
        {1, 0, 0, 0}, {12, 4, 12, 5}
    };

    public static void main(String[] arguments) throws Exception {
        Due.runAll(IndexBoundsTest.class);
    }

    private static SpanPainter bridge(int[] counts) {
        StringBuilder text = new StringBuilder("bridge " + counts[0] + " 2 1;");
        for (int lane = 0; lane < counts[1]; lane++) {
            text.append("lane l").append((char) ('a' + lane)).append(" 1;");
        }
        for (int span = 0; span < counts[2]; span++) {
            text.append("span s").append((char) ('a' + span)).append(counts[1] == 0 ? " none" : " la").append(" 5 30 9 60;");
        }
        for (int gang = 0; gang < counts[3]; gang++) {
            text.append("gang g").append((char) ('a' + gang)).append(" 2 3;");
        }
        return Due.bridge(text.toString());
    }

    /** How many there are of what a kind of argument is an index of; 0 for other kinds. */
    private static int count(char kind, int[] counts) {
        return kind == 'y' ? counts[0] : kind == 'l' ? counts[1] : kind == 's' ? counts[2] : kind == 'g' ? counts[3] : 0;
    }

    private static boolean isIndex(char kind) {
        return "yslg".indexOf(kind) >= 0;
    }

    private static Method method(String name, String kinds) throws Exception {
        Class<?>[] types = new Class<?>[kinds.length()];
        for (int index = 0; index < types.length; index++) {
            types[index] = kinds.charAt(index) == 'b' ? boolean.class : int.class;
        }
        return SpanPainter.class.getMethod(name, types);
    }

    private static String thrownBy(Method method, SpanPainter painter, Object[] values) throws Exception {
        try {
            method.invoke(painter, values);
            return "nothing";
        } catch (InvocationTargetException thrown) {
            return thrown.getCause().getClass().getName();
        }
    }

    /** Makes a call with all combinations of values at and beside the ends. */
    private static void callWithAll(String call, int[] counts) throws Exception {
        String[] parts = call.split(" ");
        String kinds = parts[2];
        Method method = method(parts[1], kinds);
        SpanPainter painter = bridge(counts);
        int all = 1;
        for (int index = 0; index < kinds.length(); index++) {
            all *= 6;
        }
        for (int number = 0; number < all; number++) {
            Object[] values = new Object[kinds.length()];
            boolean exists = true;
            StringBuilder told = new StringBuilder("promise " + call + " with");
            int rest = number;
            for (int index = 0; index < values.length; index++) {
                char kind = kinds.charAt(index);
                int count = count(kind, counts);
                int value = new int[] {-1, 0, count - 1, count, Integer.MIN_VALUE, Integer.MAX_VALUE}[rest % 6];
                rest /= 6;
                exists &= !isIndex(kind) || value >= 0 && value < count;
                values[index] = kind == 'b' ? (Object) (value >= 0) : (Object) (kind == 'v' ? 1 + (value & 7) : value);
                told.append(' ').append(values[index]);
            }
            told.append(" of ").append(counts[0]).append(" years, ").append(counts[1]).append(" lanes, ").append(counts[2])
                    .append(" spans, ").append(counts[3]).append(" gangs");
            Due.text(told.toString(), thrownBy(method, painter, values),
                    exists ? "nothing" : "java.lang.IndexOutOfBoundsException");
        }
    }

    /** "A year, span, lane or gang that does not exist, given as a parameter, throws IndexOutOfBoundsException": no other. */
    static void sectionErrorsAndEditsEachIndexOfEachCall() throws Exception {
        for (String call : CALLS) {
            for (int[] counts : COUNTS) {
                callWithAll(call, counts);
            }
        }
    }
}
