import java.lang.reflect.Constructor;
import java.lang.reflect.Field;
import java.lang.reflect.Method;
import java.lang.reflect.Modifier;
import java.nio.file.Files;
import java.nio.file.Path;
import java.util.Arrays;
import java.util.Random;
import java.util.TreeSet;
import java.util.regex.Matcher;
import java.util.regex.Pattern;

/** The public face, what LANGUAGE.md forbids as far as a text can be searched for it, and that no call throws. */
public final class FaceTest {
    private static final String[] FACE = {
        "int oven(int, int)", "int set(int, int)", "int less(int, int)", "int sort(int, int, int, int)",
        "int apart(int, int, boolean)", "int say(int)", "int wipe()", "int fault()", "int judge(int)", "int heat()",
        "int behind(int, int, int)", "int done()", "int out(int)", "int state(int, int, int)", "int spoilt()",
        "int ripe(int, int, int)", "int hot(int)", "int still(int)", "int orders(int, int)", "int two(int, int)",
        "int warm(int)", "int seen(int)", "int forget()", "int stood(int, int)", "int both()",
        "long winds(int, int, int, int, int)", "int year(int, int, int)", "int image(int)", "int restore(int)",
        "int told(int)"};
    private static final String[] FORBIDDEN = {
        "\\bthrow\\b", "\\btry\\b", "\\bcatch\\b", "\\bsynchronized\\b", "\\bassert\\b", "->", "::", "\\bpackage\\b",
        "\\bequals\\b", "\\bhashCode\\b", "\\btoString\\b", "Exact\\b", "\\bSystem\\.(?!arraycopy)",
        "\\bimport (?!java\\.util\\.Arrays;)", "\\bstatic \\{", "[^\\x00-\\x7f]", "\\bRandom\\b", "\\bThread\\b"};
    private static final Due due = new Due("FaceTest");

    public static void main(String[] args) throws Exception {
        face();
        constants();
        nestedClasses();
        source();
        neverThrows();
        due.end();
    }

    private static void face() {
        TreeSet<String> found = new TreeSet<>();
        for (Method method : BrickOven.class.getDeclaredMethods()) {
            if (method.isSynthetic()) {
                continue;
            }
            boolean open = Modifier.isPublic(method.getModifiers());
            due.holds(method + " is public or private", open || Modifier.isPrivate(method.getModifiers()));
            if (open) {
                String types = Arrays.toString(Arrays.stream(method.getParameterTypes()).map(Class::getName).toArray());
                found.add(method.getReturnType() + " " + method.getName() + "("
                    + types.substring(1, types.length() - 1) + ")");
            }
        }
        due.holds("methods " + found, found.equals(new TreeSet<>(Arrays.asList(FACE))));
        due.holds("public final", BrickOven.class.getModifiers() == (Modifier.PUBLIC | Modifier.FINAL));
        Constructor<?>[] makers = BrickOven.class.getDeclaredConstructors();
        due.holds("one constructor", makers.length == 1 && makers[0].getParameterCount() == 0
            && Modifier.isPublic(makers[0].getModifiers()));
    }

    private static void constants() throws Exception {
        String[] names = {"UNKNOWN", "OUTSIDE", "STATE", "FULL", "NO", "NONE"};
        for (int i = 0; i < names.length; i++) {
            due.is(names[i], BrickOven.class.getField(names[i]).getInt(null), -1 - i);
        }
        due.is("GONE", BrickOven.class.getField("GONE").getLong(null), -1000000000000000000L);
        due.is("public fields", BrickOven.class.getFields().length, 7);
        for (Field field : BrickOven.class.getDeclaredFields()) {
            int is = field.getModifiers();
            due.holds(field + " is public or private", Modifier.isPublic(is) || Modifier.isPrivate(is));
            due.holds(field + " is final", Modifier.isFinal(is));
        }
    }

    private static void nestedClasses() {
        TreeSet<String> taken = new TreeSet<>();
        for (String line : FACE) {
            taken.add(line.substring(line.indexOf(' ') + 1, line.indexOf('(')));
        }
        Class<?>[] nested = BrickOven.class.getDeclaredClasses();
        due.holds("at most twelve classes", nested.length < 12);
        for (Class<?> one : nested) {
            due.holds(one + " is static", Modifier.isStatic(one.getModifiers()));
            due.holds(one + " has at most twenty fields", one.getDeclaredFields().length <= 20);
            for (Method method : one.getDeclaredMethods()) {
                due.holds(method + " bears a name of its own", !taken.contains(method.getName()));
                due.holds(method + " takes at most seven", method.getParameterCount() <= 7);
            }
        }
        for (Method method : BrickOven.class.getDeclaredMethods()) {
            boolean own = Modifier.isPrivate(method.getModifiers());
            due.holds(method + " bears a name of its own", !own || !taken.contains(method.getName()));
        }
    }

    private static void source() throws Exception {
        String text = Files.readString(Path.of("src/main/java/BrickOven.java"));
        String code = text.replaceAll("(?s)/\\*.*?\\*/", "").replaceAll("//[^\n]*", "");
        for (String forbidden : FORBIDDEN) {
            Matcher matcher = Pattern.compile(forbidden).matcher(code);
            boolean found = matcher.find();
            due.holds("no " + forbidden + (found ? " in: " + matcher.group() : ""), !found);
        }
        int length = 0;
        for (String line : code.split("\n")) {
            length = line.matches("( {4}| {8})[a-z][^=;]*\\(.*\\) \\{") ? 0 : length + 1;
            due.holds("a method of at most sixty lines: " + line, !line.matches("( {4}| {8})\\}") || length <= 60);
        }
    }

    /** Numbers of all kinds for every parameter of every method, one object for each 512 calls. */
    private static void neverThrows() throws Exception {
        Random random = new Random(12);
        Method[] methods = Arrays.stream(BrickOven.class.getDeclaredMethods())
            .filter(method -> Modifier.isPublic(method.getModifiers())).toArray(Method[]::new);
        Arrays.sort(methods, (a, b) -> a.getName().compareTo(b.getName()));
        for (int run = 0; run < 200; run++) {
            BrickOven x = new BrickOven();
            for (int i = 0; i < 512; i++) {
                callByChance(x, methods[random.nextInt(methods.length)], random);
            }
        }
    }

    private static void callByChance(BrickOven x, Method method, Random random) throws Exception {
        Class<?>[] types = method.getParameterTypes();
        Object[] given = new Object[types.length];
        for (int p = 0; p < types.length; p++) {
            given[p] = types[p] == boolean.class ? (Object) random.nextBoolean() : (Object) someNumber(random);
        }
        try {
            method.invoke(x, given);
        } catch (java.lang.reflect.InvocationTargetException thrown) {
            due.holds(method.getName() + Arrays.toString(given) + " threw " + thrown.getCause(), false);
        }
    }

    private static int someNumber(Random random) {
        int[] edges = {Integer.MIN_VALUE, Integer.MIN_VALUE + 1, -65537, -2, -1, 5000, 65536, 123456, 666666, 666667,
            Integer.MAX_VALUE - 1, Integer.MAX_VALUE};
        int chance = random.nextInt(20);
        if (chance == 0) {
            return random.nextInt();
        }
        if (chance == 1) {
            return edges[random.nextInt(edges.length)];
        }
        int[] pools = {3, 3, 5, 7, 12, 60, 130, 700, 7000};
        return random.nextInt(pools[random.nextInt(pools.length)]);
    }
}
