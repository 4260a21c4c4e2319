import java.lang.reflect.Constructor;
import java.lang.reflect.Field;
import java.lang.reflect.Method;
import java.lang.reflect.Modifier;
import java.util.Arrays;
import java.util.TreeSet;

/** That the public face is the document's, and what of ../shared/LANGUAGE.md the compiled classes show. */
public final class FaceTest {
    private static final String INDEX = " throws IndexOutOfBoundsException";
    private static final String ARGUMENT = " throws IllegalArgumentException";
    private static final String BOTH = " throws IndexOutOfBoundsException, IllegalArgumentException";

    private static final String[] FACE = {
        "int feed(int, int, int, int, int)", "int load(int)" + ARGUMENT, "int errorKind()", "int errorPosition()",
        "int rustBefore(int, int)" + INDEX, "int rustAfter(int, int)" + INDEX, "int guardLeft(int, int)" + INDEX,
        "int pastYear(int)" + INDEX, "int pastCount()", "int pastSpans(int)" + INDEX, "int rustiest(int)" + INDEX,
        "double averageRust(int)" + INDEX, "int urgent(int)" + INDEX, "int unpaintedPast(int)" + INDEX,
        "int coatsNeeded(int)" + INDEX, "int latestPainting(int, int)" + INDEX, "int harmlessRate(int)" + INDEX,
        "int effort(int, int)" + INDEX, "int capacity(int, int)" + INDEX, "int loadOf(int, int)" + INDEX,
        "int gangOf(int, int)" + INDEX, "int paintedSpans(int)" + INDEX, "int lanesShut(int)" + INDEX, "int paintings()",
        "int daysUsed(int, int)" + INDEX, "int laneDays(int, int)" + INDEX, "int trafficLoss(int)" + INDEX,
        "int wages(int)" + INDEX, "int totalWages()", "int totalLoss()", "int busiestYear()", "int idleDays(int)" + INDEX,
        "int overloads()", "int firstOverload()", "int refusal(int, int, int)" + INDEX, "int possibleGangs(int, int)" + INDEX,
        "int firstPossible(int)" + INDEX, "int bestPainting(int)" + INDEX, "int shutYears(int)" + INDEX,
        "int needlessPaintings(int)" + INDEX, "int sufficientSpeed(int)" + INDEX, "int paint(int, int, int)" + INDEX,
        "int unpaint(int, int)" + INDEX, "int movePainting(int, int, int)" + INDEX, "int exchange(int, int, int)" + INDEX,
        "int setWeather(int, int)" + BOTH, "int setShut(int)" + ARGUMENT, "int setClosed(int, int, boolean)" + INDEX,
        "int setRate(int, int)" + BOTH, "int setSpeed(int, int)" + BOTH, "int autoPlan()", "int applySafePlan()", "int undo()",
        "int hasSafePlan()", "int searchTries()", "int autoPast()", "int autoPastWithout(int)" + INDEX, "int criticalGang()",
        "int worstYear()", "int smallestShut()", "int fewestGangs()", "int extraDays()", "int write()",
        "int outputByte(int)" + INDEX
    };
    private static final String[] CONSTANTS = {
        "UNCHANGED -1000003", "NOT_FOUND -1000004", "FULL -1000005", "BAD_TEXT -1000006", "REFUSED -1000007", "GIVEN_UP -1000008"
    };

    public static void main(String[] arguments) throws Exception {
        Due.runAll(FaceTest.class);
    }

    static void promise01To65Methods() {
        TreeSet<String> methods = new TreeSet<>();
        TreeSet<String> privates = new TreeSet<>();
        TreeSet<String> names = new TreeSet<>();
        for (Method method : SpanPainter.class.getDeclaredMethods()) {
            if (Modifier.isPrivate(method.getModifiers())) {
                privates.add(method.getName());
            } else {
                methods.add(told(method));
                names.add(method.getName());
                Due.is("public and of the object: " + method, method.getModifiers(), Modifier.PUBLIC);
            }
        }
        Due.text("the public methods", methods.toString(), new TreeSet<>(Arrays.asList(FACE)).toString());
        privates.retainAll(names);
        Due.text("private methods with a name of the face", privates.toString(), "[]");
    }

    private static String told(Method method) {
        StringBuilder told = new StringBuilder(method.getReturnType().getName()).append(' ').append(method.getName());
        told.append('(').append(joined(method.getParameterTypes())).append(')');
        if (method.getExceptionTypes().length > 0) {
            told.append(" throws ").append(joined(method.getExceptionTypes()));
        }
        return told.toString();
    }

    private static String joined(Class<?>[] types) {
        StringBuilder told = new StringBuilder();
        for (Class<?> type : types) {
            told.append(told.length() == 0 ? "" : ", ").append(type.getSimpleName());
        }
        return told.toString();
    }

    static void promise01To65Constants() throws Exception {
        TreeSet<String> constants = new TreeSet<>();
        for (Field field : SpanPainter.class.getDeclaredFields()) {
            if (!Modifier.isPrivate(field.getModifiers())) {
                Due.is("public static final: " + field, field.getModifiers(),
                        Modifier.PUBLIC | Modifier.STATIC | Modifier.FINAL);
                constants.add(field.getName() + " " + field.getInt(null));
            }
        }
        Due.text("the constants", constants.toString(), new TreeSet<>(Arrays.asList(CONSTANTS)).toString());
    }

    static void promise01Constructor() {
        Constructor<?>[] constructors = SpanPainter.class.getDeclaredConstructors();
        Due.is("constructors", constructors.length, 1);
        Due.is("public", constructors[0].getModifiers(), Modifier.PUBLIC);
        Due.is("parameters", constructors[0].getParameterCount(), 0);
        Due.is("public final class", SpanPainter.class.getModifiers(), Modifier.PUBLIC | Modifier.FINAL);
        Due.is("superclass", SpanPainter.class.getSuperclass() == Object.class ? 1 : 0, 1);
    }

    /** The rules 1, 2, 5, 6 and 11 of the language, as far as they show. */
    static void promise01To65Language() {
        Class<?>[] inside = SpanPainter.class.getDeclaredClasses();
        Due.is("at most twelve classes: " + inside.length, inside.length <= 12 ? 1 : 0, 1);
        looksAllowed(SpanPainter.class);
        for (Class<?> one : inside) {
            int modifiers = one.getModifiers();
            Due.is("static and not public: " + one, modifiers & (Modifier.STATIC | Modifier.PUBLIC | Modifier.PROTECTED),
                    Modifier.STATIC);
            looksAllowed(one);
        }
    }

    private static void looksAllowed(Class<?> one) {
        int fields = 0;
        for (Field field : one.getDeclaredFields()) {
            if (Modifier.isStatic(field.getModifiers())) {
                Due.is("final: " + field, field.getModifiers() & Modifier.FINAL, Modifier.FINAL);
            } else {
                fields++;
            }
        }
        Due.is("at most twenty fields: " + one, fields <= 20 ? 1 : 0, 1);
        for (Method method : one.getDeclaredMethods()) {
            Due.is("at most seven parameters: " + method, method.getParameterCount() <= 7 ? 1 : 0, 1);
            Due.is("made by the compiler: " + method, method.isSynthetic() ? 1 : 0, 0);
            String name = method.getName();
            Due.is("a method of all objects: " + method,
                    name.equals("equals") || name.equals("hashCode") || name.equals("toString") ? 1 : 0, 0);
        }
    }
}
