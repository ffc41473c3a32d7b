import java.lang.management.ManagementFactory;
import java.lang.reflect.Field;
import java.lang.reflect.Method;
import java.lang.reflect.Modifier;
import java.nio.file.Files;
import java.nio.file.Path;
import java.util.HashSet;
import java.util.List;
import java.util.Set;
import java.util.regex.Pattern;

/** Rules of LANGUAGE.md that can be looked up in the source, in the class, and in what a call makes. */
public final class LanguageTest {
    private static final List<String> FACE = List.of("type", "clearText", "fault", "lay", "addPart", "removePart",
            "set", "undo", "count", "part", "lineLoss", "sample", "echo", "pulsesFor", "events", "event", "total",
            "eventAt", "worst", "findings", "widthFor", "keep", "compare");
    private static final Set<String> CONSTANTS =
            Set.of("INVALID_ARGUMENT", "NOT_POSSIBLE", "LIMIT_REACHED", "NOT_FOUND");

    private LanguageTest() {
    }

    public static void main(String[] args) throws Exception {
        words(Files.readString(Path.of("src/main/java/FiberTrace.java")));
        face();
        names();
        sizes();
        wildArguments();
        allocations();
        Checks.finish();
    }

    private static void words(String source) {
        String code = source.replaceAll("(?s)/\\*.*?\\*/", "").replaceAll("//.*", "");
        String[] forbidden = {"\\bthrow\\b", "\\btry\\b", "\\bcatch\\b", "\\bsynchronized\\b", "\\bassert\\b",
            "\\bimport\\b", "\\bpackage\\b", "->", "::", "\\bequals\\b", "\\bhashCode\\b", "\\btoString\\b",
            "Exact\\b", "\\bdouble\\b", "\\bfloat\\b", "\\bThread\\b", "System\\.(?!arraycopy)", "\"\\s*\\+", "\\+\\s*\""};
        for (String word : forbidden) {
            Checks.due("rule: " + word, Pattern.compile(word).matcher(code).results().count(), 0);
        }
        Checks.due("rule: signs", source.chars().filter(c -> c > 126).count(), 0);
    }

    private static void face() {
        Set<String> open = new HashSet<>();
        for (Method m : FiberTrace.class.getDeclaredMethods()) {
            if (!Modifier.isPrivate(m.getModifiers()) && !m.isSynthetic()) {
                Checks.due("face: " + m.getName() + " is public", Modifier.isPublic(m.getModifiers()) ? 1 : 0, 1);
                Checks.due("face: " + m.getName() + " is once", open.add(m.getName()) ? 1 : 0, 1);
            }
        }
        Checks.due("face: methods", open.equals(Set.copyOf(FACE)) ? 1 : 0, 1);
        for (Field f : FiberTrace.class.getDeclaredFields()) {
            boolean isConstant = CONSTANTS.contains(f.getName());
            Checks.due("face: " + f.getName(), Modifier.isPublic(f.getModifiers()) ? 1 : 0, isConstant ? 1 : 0);
            Checks.due("face: " + f.getName(), Modifier.isPrivate(f.getModifiers()) ? 1 : 0, isConstant ? 0 : 1);
        }
        Checks.due("face: constructors", FiberTrace.class.getDeclaredConstructors().length, 1);
    }

    private static void names() {
        for (Class<?> c : FiberTrace.class.getDeclaredClasses()) {
            Checks.due("names: " + c + " is static", Modifier.isStatic(c.getModifiers()) ? 1 : 0, 1);
            for (Method m : c.getDeclaredMethods()) {
                Checks.due("names: " + c + "." + m.getName(), FACE.contains(m.getName()) ? 1 : 0, 0);
            }
        }
    }

    private static void sizes() {
        Class<?>[] classes = FiberTrace.class.getDeclaredClasses();
        Checks.due("sizes: classes", classes.length + 1 <= 12 ? 1 : 0, 1);
        for (Class<?> c : classes) {
            long fields = List.of(c.getDeclaredFields()).stream()
                    .filter(f -> !Modifier.isStatic(f.getModifiers())).count();
            Checks.due("sizes: fields of " + c, fields <= 20 ? 1 : 0, 1);
            for (Method m : c.getDeclaredMethods()) {
                Checks.due("sizes: parameters of " + m, m.getParameterCount() <= 7 ? 1 : 0, 1);
            }
        }
    }

    private static int call(FiberTrace x, Method method, int[] values, int seed) throws Exception {
        Object[] arguments = new Object[method.getParameterCount()];
        int rest = seed;
        for (int i = 0; i < arguments.length; i++) {
            arguments[i] = values[rest % values.length];
            rest /= values.length;
        }
        return (int) method.invoke(x, arguments);
    }

    /** Whatever the arguments are, a call answers; and what it answers is no other error than one of the four. */
    private static void wildArguments() throws Exception {
        int[] values = {Integer.MIN_VALUE, -1000004, -501, -1, 0, 1, 2, 3, 5, 11, 60, 126, 461, 20001, Integer.MAX_VALUE};
        for (Method method : FiberTrace.class.getDeclaredMethods()) {
            if (!Modifier.isPublic(method.getModifiers())) {
                continue;
            }
            FiberTrace x = Checks.laid("length 50;connector 2 5 20000;splice 3 5;change 5 5;");
            x.keep();
            int seeds = (int) Math.pow(values.length, method.getParameterCount());
            for (int seed = 0; seed < seeds; seed++) {
                int answer = call(x, method, values, seed);
                Checks.due("wild: " + method.getName(), answer < -1000000 && answer > Checks.INVALID ? 1 : 0, 0);
                Checks.due("wild: " + method.getName(), answer < Checks.NOT_FOUND ? 1 : 0, 0);
            }
        }
    }

    /** A run of dear calls makes next to nothing: all rows are made with the object. */
    private static void allocations() {
        com.sun.management.ThreadMXBean threads = (com.sun.management.ThreadMXBean) ManagementFactory.getThreadMXBean();
        FiberTrace x = Checks.laid("connector 40 0 14000;connector 60 0 14000;splice 70 70;");
        long before = threads.getCurrentThreadAllocatedBytes();
        int answers = 0;
        for (int i = 0; i < 500; i++) {
            answers += x.set(3, i % 400) + x.keep() + x.widthFor() + x.pulsesFor(10) + x.worst() + x.lay();
            answers += x.compare(0, 10, 1) + x.fault(0) + x.undo() + x.echo(0, 0) + x.part(0, 5) + x.total(2);
        }
        long made = threads.getCurrentThreadAllocatedBytes() - before;
        Checks.due("allocations of 500 rounds, " + answers, made < 200000 ? 1 : 0, 1);
    }
}
