import java.lang.reflect.InvocationTargetException;
import java.lang.reflect.Method;
import java.nio.charset.StandardCharsets;
import java.util.ArrayList;
import java.util.List;

/** Makes the same calls of SpanPainter and of Model and compares all answers. */
public final class ModelTest {
    /**
     * Each method with its weight and its arguments: y a year, s a span, l a lane, g a gang, i a small index,
     * d days, u a SHUT, t a RATE, p a SPEED, b a boolean.
     */
    private static final String[] CALLS = {
        "errorKind 1", "errorPosition 1",
        "rustBefore 4 sy", "rustAfter 4 sy", "guardLeft 4 sy", "pastYear 3 s", "pastCount 2", "pastSpans 3 y", "rustiest 3 y",
        "averageRust 3 y", "urgent 4 s", "unpaintedPast 2 s", "coatsNeeded 1 s", "latestPainting 3 si", "harmlessRate 2 s",
        "effort 4 sy", "capacity 2 gy", "loadOf 4 gy", "gangOf 3 sy", "paintedSpans 2 y", "lanesShut 3 y", "paintings 2",
        "daysUsed 4 gy", "laneDays 4 ly", "trafficLoss 3 y", "wages 3 y", "totalWages 2", "totalLoss 2", "busiestYear 2",
        "idleDays 3 g", "overloads 2", "firstOverload 2", "refusal 8 ysg", "possibleGangs 4 ys", "firstPossible 3 s",
        "bestPainting 3 s", "shutYears 3 l", "needlessPaintings 4 y", "sufficientSpeed 3 g",
        "paint 14 ysg", "unpaint 5 ys", "movePainting 9 syy", "exchange 9 yss", "setWeather 5 yd", "setShut 3 u",
        "setClosed 4 lyb", "setRate 4 st", "setSpeed 4 gp", "autoPlan 3", "applySafePlan 2", "undo 8",
        "hasSafePlan 1", "searchTries 1", "autoPast 1", "autoPastWithout 2 g", "criticalGang 1", "worstYear 1",
        "smallestShut 1", "fewestGangs 1", "extraDays 1", "write 2", "outputByte 4 i"
    };
    private static final int RUNS = 2500;
    private static final int CALLS_OF_A_RUN = 160;
    private static final int CALLS_OF_AN_OBJECT = 512;

    private final Numbers numbers;
    private final long seed;
    /** Whether the bridges have numbers near the ends of their ranges, and all indexes are as likely. */
    private final boolean extreme;
    private final SpanPainter painter = new SpanPainter();
    private final Model model = new Model();
    private final List<String> done = new ArrayList<>();
    private int buffered = 0;
    private int calls = 0;

    private ModelTest(long seed) {
        this.seed = seed;
        this.numbers = new Numbers(seed);
        this.extreme = seed % 5 == 0;
    }

    public static void main(String[] arguments) throws Exception {
        int runs = arguments.length > 0 ? Integer.parseInt(arguments[0]) : RUNS;
        int first = arguments.length > 1 ? Integer.parseInt(arguments[1]) : 1;
        int wrong = 0;
        for (int seed = first; seed < first + runs && wrong < 5; seed++) {
            if (!new ModelTest(seed).run()) {
                wrong++;
            }
        }
        System.out.println(wrong == 0 ? runs + " runs answer as the model does" : "some runs answer otherwise");
        if (wrong > 0) {
            System.exit(1);
        }
    }

    private boolean run() throws Exception {
        if (numbers.percent(95) && !load(legalText())) {
            return false;
        }
        for (int call = 0; call < CALLS_OF_A_RUN && calls < CALLS_OF_AN_OBJECT - 60; call++) {
            boolean same;
            if (numbers.percent(2)) {
                same = load(numbers.percent(30) ? legalText() : Texts.broken(numbers));
            } else if (numbers.percent(1)) {
                same = call("feed", anyInts(5));
            } else {
                same = anyCall();
            }
            if (!same) {
                return false;
            }
        }
        return true;
    }

    private String legalText() {
        return extreme ? Texts.extreme(numbers) : Texts.legal(numbers);
    }

    private Object[] anyInts(int count) {
        Object[] made = new Object[count];
        for (int index = 0; index < count; index++) {
            made[index] = numbers.below(Integer.MAX_VALUE) << 1 ^ numbers.below(1000);
        }
        return made;
    }

    private boolean load(String text) throws Exception {
        if (buffered > 0 && !call("load", new Object[] {numbers.from(-1, buffered + 1)})) {
            return false;
        }
        byte[] bytes = text.getBytes(StandardCharsets.ISO_8859_1);
        for (int start = 0; start < bytes.length; start += 20) {
            Object[] parts = new Object[5];
            for (int part = 0; part < 5; part++) {
                int value = 0;
                for (int index = start + 4 * part; index < start + 4 * part + 4; index++) {
                    value = value << 8 | (index < bytes.length ? bytes[index] & 255 : ' ');
                }
                parts[part] = value;
            }
            if (!call("feed", parts)) {
                return false;
            }
        }
        if (numbers.percent(3) && !call("load", new Object[] {numbers.percent(50) ? -1 : 901})) {
            return false;
        }
        return call("load", new Object[] {Math.min(bytes.length, 900)})
                && call("errorKind", new Object[0]) && call("errorPosition", new Object[0]);
    }

    private boolean anyCall() throws Exception {
        int whole = 0;
        for (String line : CALLS) {
            whole += Integer.parseInt(line.split(" ")[1]);
        }
        int drawn = numbers.below(whole);
        for (String line : CALLS) {
            String[] parts = line.split(" ");
            drawn -= Integer.parseInt(parts[1]);
            if (drawn < 0) {
                String kinds = parts.length > 2 ? parts[2] : "";
                Object[] values = new Object[kinds.length()];
                for (int index = 0; index < values.length; index++) {
                    values[index] = argument(kinds.charAt(index));
                }
                return call(parts[0], values);
            }
        }
        throw new IllegalStateException("no call was drawn");
    }

    private Object argument(char kind) {
        if (kind == 'b') {
            return numbers.percent(60);
        }
        if (numbers.percent(1)) {
            return numbers.percent(50) ? Integer.MIN_VALUE : Integer.MAX_VALUE;
        }
        if (extreme) {
            return extremeArgument(kind);
        }
        return switch (kind) {
            case 'y' -> numbers.percent(85) ? numbers.from(0, 4) : numbers.from(-1, 12);
            case 's' -> numbers.percent(85) ? numbers.from(0, 4) : numbers.from(-1, 12);
            case 'l' -> numbers.percent(90) ? numbers.from(0, 1) : numbers.from(-1, 4);
            case 'g' -> numbers.percent(90) ? numbers.from(0, 2) : numbers.from(-1, 5);
            case 'i' -> numbers.percent(90) ? numbers.from(0, 4) : numbers.from(-1, 30);
            case 'd' -> numbers.percent(60) ? numbers.from(0, 40) : numbers.from(-1, 201);
            case 'u' -> numbers.from(0, 5);
            case 't' -> numbers.percent(80) ? numbers.from(1, 30) : numbers.from(0, 51);
            default -> numbers.percent(70) ? numbers.from(1, 4) : numbers.from(0, 51);
        };
    }

    private int extremeArgument(char kind) {
        return switch (kind) {
            case 'y', 's', 'i' -> numbers.percent(95) ? numbers.from(0, 11) : numbers.from(-1, 12);
            case 'l' -> numbers.percent(95) ? numbers.from(0, 3) : numbers.from(-1, 4);
            case 'g' -> numbers.percent(95) ? numbers.from(0, 4) : numbers.from(-1, 5);
            case 'd' -> numbers.nearEnd(-1, 201);
            case 'u' -> numbers.nearEnd(0, 5);
            default -> numbers.nearEnd(0, 51);
        };
    }

    private boolean call(String name, Object[] values) throws Exception {
        calls++;
        StringBuilder told = new StringBuilder(name).append('(');
        for (int index = 0; index < values.length; index++) {
            told.append(index == 0 ? "" : ", ").append(values[index]);
        }
        told.append(')');
        Object got = answer(painter, name, values);
        Object due = answer(model, name, values);
        done.add(told + " = " + due);
        if (name.equals("feed") && !due.equals(SpanPainter.FULL)) {
            buffered = (Integer) due;
        }
        if (name.equals("load") && due instanceof Integer) {
            buffered = 0;
        }
        if (got.equals(due)) {
            return true;
        }
        System.out.println("run " + seed + ": " + told + " answered " + got + ", due is " + due + "; the calls were");
        for (String line : done) {
            System.out.println("  " + line);
        }
        return false;
    }

    /** What a call answers: its result, or the name of what it throws. */
    private static Object answer(Object target, String name, Object[] values) throws Exception {
        Class<?>[] types = new Class<?>[values.length];
        for (int index = 0; index < values.length; index++) {
            types[index] = values[index] instanceof Boolean ? boolean.class : int.class;
        }
        Method method = target.getClass().getMethod(name, types);
        try {
            return method.invoke(target, values);
        } catch (InvocationTargetException thrown) {
            return thrown.getCause().getClass().getName();
        }
    }
}
