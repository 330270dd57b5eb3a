import java.io.IOException;
import java.lang.reflect.Constructor;
import java.lang.reflect.Executable;
import java.lang.reflect.Field;
import java.lang.reflect.Method;
import java.lang.reflect.Modifier;
import java.nio.file.Files;
import java.nio.file.Path;
import java.util.ArrayList;
import java.util.Comparator;
import java.util.List;
import java.util.Random;
import java.util.Set;
import java.util.TreeSet;
import java.util.regex.Matcher;
import java.util.regex.Pattern;

/** The document's face, and the rules of LANGUAGE.md that can be seen from outside. */
public final class Form {
    private static final String[] FACE = {
        "int type(int)", "int clear()", "int city()", "int cell(int,int,int)", "int kind(int,int)", "int lets(int,int,int)",
        "int sets(int,int,int)", "int takes(int,int,int)", "int cobble(int,int,int)", "int sweep(int,int)", "int undo()",
        "int now(int)", "int end(int,int,int,int)", "int doors(int,int,int)", "int planks(int,int,int,int)",
        "int paved(int,int,int,int)", "int rain(int)", "int feet(int,int,int,int)", "int apart(int,int)", "int rolls()",
        "int saw(int,int,int)", "int forget()", "int moved(int)", "int mark(int,int,int)", "int keep(int)", "int back(int)",
        "int count(int)", "long trace()"};
    private static int wrong = 0;

    private static void need(boolean holds, String what) {
        if (!holds) {
            wrong++;
            System.out.println("not as due: " + what);
        }
    }

    public static void main(String[] args) throws IOException {
        face();
        for (Class<?> one : classes()) {
            members(one);
        }
        source(Files.readString(Path.of("src/main/java/SlopeCoins.java")));
        room();
        neverThrows();
        System.out.println(wrong == 0 ? "the form is as due" : wrong + " rules are broken");
        if (wrong != 0) {
            System.exit(1);
        }
    }

    private static List<Class<?>> classes() {
        List<Class<?>> all = new ArrayList<>();
        all.add(SlopeCoins.class);
        for (Class<?> inside : SlopeCoins.class.getDeclaredClasses()) {
            int how = inside.getModifiers();
            need(Modifier.isStatic(how), inside + " is static");
            need(!Modifier.isPublic(how) && !Modifier.isProtected(how), inside + " is hidden");
            need(inside.getDeclaredClasses().length == 0, inside + " has no class inside");
            all.add(inside);
        }
        need(all.size() <= 12, "at most twelve classes: " + all.size());
        return all;
    }

    private static void face() {
        Class<?> face = SlopeCoins.class;
        need(Modifier.isPublic(face.getModifiers()) && Modifier.isFinal(face.getModifiers()), "public and final");
        need(face.getPackageName().isEmpty(), "without a package");
        Constructor<?>[] makers = face.getDeclaredConstructors();
        need(makers.length == 1 && Modifier.isPublic(makers[0].getModifiers()) && makers[0].getParameterCount() == 0, "one constructor");
        Set<String> open = new TreeSet<>();
        for (Method method : face.getDeclaredMethods()) {
            if (!Modifier.isPrivate(method.getModifiers())) {
                need(Modifier.isPublic(method.getModifiers()) && !Modifier.isStatic(method.getModifiers()), method + " is of the face");
                open.add(method.toString().replaceAll("^public (\\w+) SlopeCoins\\.", "$1 "));
            }
        }
        need(open.equals(new TreeSet<>(List.of(FACE))), "the face's methods: " + open);
        Set<String> constants = new TreeSet<>();
        for (Field field : face.getDeclaredFields()) {
            if (!Modifier.isPrivate(field.getModifiers())) {
                constants.add(field.toString());
            }
        }
        Set<String> due = new TreeSet<>();
        for (String name : List.of("BAD", "STATE", "FULL", "NONE", "NO")) {
            due.add("public static final int SlopeCoins." + name);
        }
        need(constants.equals(due), "the face's constants: " + constants);
        need(SlopeCoins.BAD == -1 && SlopeCoins.STATE == -2 && SlopeCoins.FULL == -3, "BAD, STATE, FULL");
        need(SlopeCoins.NONE == -9 && SlopeCoins.NO == -1000000, "NONE, NO");
    }

    private static void members(Class<?> one) {
        int fields = 0;
        for (Field field : one.getDeclaredFields()) {
            if (Modifier.isStatic(field.getModifiers())) {
                need(Modifier.isFinal(field.getModifiers()), field + " is final");
            } else {
                fields++;
            }
        }
        need(fields <= 20, one + " has at most twenty fields: " + fields);
        List<Executable> all = new ArrayList<>(List.of(one.getDeclaredMethods()));
        all.addAll(List.of(one.getDeclaredConstructors()));
        for (Executable method : all) {
            need(method.getParameterCount() <= 7, method + " takes at most seven");
            need(!method.isSynthetic(), method + " was written");
            boolean ofFace = one == SlopeCoins.class && Modifier.isPublic(method.getModifiers());
            for (String due : FACE) {
                need(ofFace || !due.contains(" " + method.getName() + "("), method + " has a name of its own");
            }
        }
    }

    private static void source(String text) {
        String bare = text.replaceAll("(?s)/\\*.*?\\*/", "").replaceAll("//[^\n]*", "").replaceAll("'(\\\\.|[^'])'", "' '");
        for (String word : List.of("throw", "throws", "try", "catch", "synchronized", "assert", "while", "var", "enum",
                "record", "instanceof", "double", "float", "equals", "hashCode", "toString", "System.out", "Random")) {
            need(!Pattern.compile("\\b" + Pattern.quote(word) + "\\b").matcher(bare).find(), "without '" + word + "'");
        }
        for (String sign : List.of("->", "::", "\"", "@")) {
            need(!bare.contains(sign), "without " + sign);
        }
        for (int at = 0; at < text.length(); at++) {
            need(text.charAt(at) < 128, "signs are 1 to 127");
        }
        Matcher imports = Pattern.compile("import ([^;]*);").matcher(bare);
        while (imports.find()) {
            need(Set.of("java.util.Arrays", "java.util.ArrayList", "java.util.List").contains(imports.group(1)), imports.group());
        }
        Matcher library = Pattern.compile("\\b(Arrays|System|Math|Integer|Long)\\.(\\w+)").matcher(bare);
        while (library.find()) {
            need(Set.of("Arrays.fill", "System.arraycopy", "Math.min", "Math.max", "Integer.bitCount").contains(library.group()),
                library.group() + " is of the library that may be used");
        }
        int opened = 0;
        String[] lines = text.split("\n");
        for (int line = 0; line < lines.length; line++) {
            if (lines[line].matches(" {4,8}[^ /*].*\\) \\{")) {
                opened = line;
            }
            if (lines[line].matches(" {4,8}\\}")) {
                need(line - opened <= 60, "a method of at most sixty lines at " + opened);
            }
        }
    }

    /** All rows are made in the constructor: calls alone make nothing. */
    private static void room() {
        com.sun.management.ThreadMXBean room =
            (com.sun.management.ThreadMXBean) java.lang.management.ManagementFactory.getThreadMXBean();
        long id = Thread.currentThread().getId();
        int[] bytes = "g6 5 012345 123456 234567 345678 456789;k0 0 1;o1 1 3;c1 1 0;c2 2 1;c5 9 0;".chars().toArray();
        allCalls(new SlopeCoins(), bytes);
        long before = room.getThreadAllocatedBytes(id);
        SlopeCoins coins = new SlopeCoins();
        long made = room.getThreadAllocatedBytes(id);
        for (int times = 0; times < 100; times++) {
            allCalls(coins, bytes);
        }
        long after = room.getThreadAllocatedBytes(id);
        need(made - before < 40000, "a new object is small: " + (made - before) + " bytes");
        need(after - made < 20000, "calls make no objects: " + (after - made) + " bytes");
    }

    /** Rule 7: whatever the numbers and the state, a call answers. */
    private static void neverThrows() {
        int[] numbers = {Integer.MIN_VALUE, Integer.MIN_VALUE + 1, -1000000, -11, -10, -9, -2, -1, 0, 1, 2, 3, 4, 5, 6, 7, 9, 10, 11, 21,
            30, 44, 54, 55, 60, 100, 154, 199, 200, 201, 255, 256, 65536, 429496729, 429496730, Integer.MAX_VALUE - 1, Integer.MAX_VALUE};
        int[] bytes = "g6 5 012345 123456 234567 345678 456789;k0 0 1;o1 1 3;c1 1 0;c2 2 1;c5 9 0;".chars().toArray();
        List<Method> calls = new ArrayList<>();
        for (Method method : SlopeCoins.class.getDeclaredMethods()) {
            if (Modifier.isPublic(method.getModifiers())) {
                calls.add(method);
            }
        }
        calls.sort(Comparator.comparing(Method::getName));
        Random random = new Random(29);
        for (int object = 0; object < 400; object++) {
            SlopeCoins coins = new SlopeCoins();
            if (object % 4 > 0) {
                allCalls(coins, bytes);
            }
            for (int times = 0; times < 300; times++) {
                Method method = calls.get(random.nextInt(calls.size()));
                Object[] given = new Object[method.getParameterCount()];
                for (int at = 0; at < given.length; at++) {
                    given[at] = random.nextInt(3) == 0 ? random.nextInt(4) : numbers[random.nextInt(numbers.length)];
                }
                try {
                    method.invoke(coins, given);
                } catch (ReflectiveOperationException thrown) {
                    need(false, method + " of " + List.of(given) + " answers, but threw " + thrown.getCause());
                }
            }
        }
    }

    private static void allCalls(SlopeCoins coins, int[] bytes) {
        coins.clear();
        for (int sign : bytes) {
            coins.type(sign);
        }
        coins.city();
        for (int x = 0; x < 6; x++) {
            coins.lets(x % 3, x, 4);
            coins.sets(x, 3, 2);
            coins.cobble(x, 2, 0);
            coins.sweep(x, 0);
            coins.takes(x, 3, 2);
            coins.saw(0, 54, x);
            coins.mark(x, 1, 1);
            coins.planks(0, 54, 10 * x, 0);
            coins.paved(1, x, 0, 0);
            coins.feet(1, 10 * x, 0, 1);
            coins.now(x);
            coins.cell(x, 1, x);
        }
        coins.undo();
        coins.end(0, 5, 4, 0);
        coins.doors(0, 0, 0);
        coins.rain(0);
        coins.apart(0, 1);
        coins.rolls();
        coins.moved(0);
        coins.keep(0);
        coins.back(0);
        coins.forget();
        coins.count(0);
        coins.kind(0, 0);
        coins.trace();
    }
}
