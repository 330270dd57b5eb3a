import java.lang.reflect.InvocationTargetException;
import java.lang.reflect.Method;
import java.util.ArrayList;
import java.util.HashMap;
import java.util.List;
import java.util.Map;

/**
 * One object and what is asked of it, for the tests of boundaries. Calls are told as texts: "lets 0 1 2, undo" does
 * them, "lets 0 1 2: 21, undo: 0" looks at the answers too.
 */
final class Scene {
    /** A city with something of everything: 3 2, three kinds, more deeds than are known, both images, a text. */
    static final String RICH_CITY = "g3 2 432 310;k0 0 2;o1 1 3;c2 5 0;c4 20 0;c2 7 1;";
    static final String RICH_DEEDS = "lets 0 1 0, lets 1 0 0, lets 1 2 1, keep 0, sets 1 1 1, cobble 0 1 1, sweep 2 1,"
        + " lets 2 2 0, lets 1 1 1, keep 1, takes 2 1 3, cobble 2 1 1, sets 0 0 1, lets 0 1 1, saw 0 0 11, saw 1 20 21,"
        + " mark 3 0 0, type 103, type 49, type 32, type 49, type 32, type 53, type 59";

    private static final int MOST_CALLS = 512, MOST_UNDONE = 10, MOST_TOLD = 40;
    private static final Map<String, Method> CALLS = new HashMap<>();
    private static final Map<String, Integer> NAMES = Map.of("BAD", -1, "STATE", -2, "FULL", -3, "NONE", -9,
        "NO", -1000000, "MIN", Integer.MIN_VALUE, "MAX", Integer.MAX_VALUE);

    private static String sentence = "";
    private static int sentences = 0;
    private static int rows = 0;
    private static int wrong = 0;

    private final SlopeCoins coins = new SlopeCoins();
    private final String beginning;
    private int calls = 0;

    static {
        for (Method method : SlopeCoins.class.getMethods()) {
            if (method.getDeclaringClass() == SlopeCoins.class) {
                CALLS.put(method.getName(), method);
            }
        }
    }

    private Scene(String beginning) {
        this.beginning = beginning;
    }

    /** The document's words that the rows below are about. */
    static void sentence(String words) {
        sentence = words;
        sentences++;
    }

    static void finish() {
        System.out.println(sentences + " sentences, " + rows + " rows, " + wrong + " not as due");
        if (wrong != 0) {
            System.exit(1);
        }
    }

    static Scene fresh() {
        return new Scene("");
    }

    static Scene of(String city) {
        Scene scene = new Scene(city).types(city);
        long items = scene.ask("city");
        scene.need(items >= 0, "a test's city is refused: " + items);
        return scene;
    }

    static Scene rich() {
        return of(RICH_CITY).does(RICH_DEEDS);
    }

    Scene types(String text) {
        for (char sign : text.toCharArray()) {
            coins.type(sign);
            calls++;
        }
        return this;
    }

    Scene does(String deeds) {
        for (String call : parts(deeds)) {
            ask(call);
        }
        return this;
    }

    Scene due(String told) {
        for (String row : parts(told)) {
            int colon = row.indexOf(':');
            String call = row.substring(0, colon);
            long want = number(row.substring(colon + 1).trim());
            long got = ask(call);
            need(got == want, call + " answered " + got + ", due is " + want);
        }
        need(calls <= MOST_CALLS, "a test asks more than an object's 512 calls");
        return this;
    }

    /** As due(), for the one rule that an object can't come to within its calls. */
    Scene dueLater(String told) {
        calls = 0;
        return due(told);
    }

    long ask(String call) {
        String[] words = call.trim().split(" +");
        Method method = CALLS.get(words[0]);
        Object[] numbers = new Object[words.length - 1];
        for (int at = 1; at < words.length; at++) {
            numbers[at - 1] = number(words[at]);
        }
        calls++;
        try {
            return ((Number) method.invoke(coins, numbers)).longValue();
        } catch (IllegalAccessException | InvocationTargetException thrown) {
            need(false, call + " threw " + thrown.getCause());
            return 0;
        }
    }

    /** Each of these calls, on an object of its own after those deeds, answers so and leaves all as it was. */
    static void unchanged(String city, String deeds, String told) {
        for (String row : parts(told)) {
            same(city, deeds, row, deeds);
        }
    }

    static void unchangedWhenRich(String told) {
        unchanged(RICH_CITY, RICH_DEEDS, told);
    }

    /** After the deeds and these rows all is as after the other deeds, whatever is undone or taken from an image. */
    static void same(String city, String deeds, String told, String others) {
        for (int image = -1; image <= 1; image++) {
            for (int undone = 0; undone <= MOST_UNDONE; undone++) {
                Scene one = of(city).does(deeds);
                if (told.contains(":")) {
                    one.due(told);
                } else {
                    one.does(told);
                }
                Scene other = of(city).does(others);
                String way = " (image " + image + ", undone " + undone + ")";
                one.need(one.look(image, undone).equals(other.look(image, undone)), "not as before after " + told + way);
            }
        }
        Scene one = of(city).does(deeds).does(told.replaceAll(":[^,]*", ""));
        Scene other = of(city).does(others);
        one.need(one.lookByText().equals(other.lookByText()), "another text than before after " + told);
    }

    /**
     * The last inputs that are taken and the first that are refused: bounds are the least and the most of each
     * number. What is taken is taken in each corner of the bounds.
     */
    static void edges(String name, String refusal, int... bounds) {
        int numbers = bounds.length / 2;
        for (int corner = 0; corner < 1 << numbers; corner++) {
            int[] given = new int[numbers];
            for (int at = 0; at < numbers; at++) {
                given[at] = bounds[2 * at + (corner >> at & 1)];
            }
            Scene scene = rich();
            scene.need(scene.ask(told(name, given)) != number(refusal), told(name, given) + " is refused");
            for (int at = 0; at < numbers; at++) {
                int taken = given[at];
                int outside = (corner >> at & 1) == 0 ? bounds[2 * at] - 1 : bounds[2 * at + 1] + 1;
                int far = (corner >> at & 1) == 0 ? Integer.MIN_VALUE : Integer.MAX_VALUE;
                given[at] = outside;
                unchangedWhenRich(told(name, given) + ": " + refusal);
                given[at] = far;
                rich().due(told(name, given) + ": " + refusal);
                given[at] = taken;
            }
        }
    }

    /** As edges(), for the PAIR that stands at one place of a call, which is written as #, in the city of 3 2. */
    static void edgesOfPair(String call) {
        for (int pair : new int[] {0, 1, 10, 11, 20, 21}) {
            Scene scene = rich();
            String taken = call.replace("#", String.valueOf(pair));
            scene.need(scene.ask(taken) != -1, taken + " is refused");
        }
        for (int pair : new int[] {-1, -10, 2, 9, 12, 19, 22, 29, 30, 31, 100, Integer.MIN_VALUE, Integer.MAX_VALUE}) {
            unchangedWhenRich(call.replace("#", String.valueOf(pair)) + ": BAD");
        }
    }

    private String look(int image, int undone) {
        StringBuilder seen = new StringBuilder();
        if (image >= 0) {
            seen.append(ask("back " + image)).append(' ');
        }
        for (int times = 0; times < undone; times++) {
            seen.append(ask("undo")).append(' ');
        }
        return seen.append(lookAround()).toString();
    }

    private String lookByText() {
        return ask("city") + " " + lookAround();
    }

    private String lookAround() {
        StringBuilder seen = new StringBuilder();
        for (int what = 0; what <= 6; what++) {
            seen.append(ask("count " + what)).append(' ').append(ask("now " + what)).append(' ');
        }
        seen.append(ask("moved 0")).append(' ').append(ask("moved 1")).append(' ').append(ask("trace"));
        long wide = ask("count 0");
        long high = ask("count 1");
        long kinds = ask("count 3");
        for (int k = 0; k < kinds; k++) {
            for (int what = 0; what <= 2; what++) {
                seen.append(' ').append(ask("kind " + k + " " + what));
            }
        }
        for (int x = 0; x < wide; x++) {
            for (int y = 0; y < high; y++) {
                for (int what = 0; what <= 6; what++) {
                    seen.append(' ').append(ask("cell " + x + " " + y + " " + what));
                }
            }
        }
        return seen.toString();
    }

    private void need(boolean holds, String what) {
        rows++;
        if (!holds) {
            wrong++;
        }
        if (!holds && wrong <= MOST_TOLD) {
            System.out.println("'" + sentence + "', in '" + beginning + "', call " + calls + ": " + what);
        }
    }

    private static String told(String name, int[] numbers) {
        StringBuilder call = new StringBuilder(name);
        for (int number : numbers) {
            call.append(' ').append(number);
        }
        return call.toString();
    }

    private static List<String> parts(String told) {
        List<String> parts = new ArrayList<>();
        for (String part : told.split(",")) {
            if (!part.isBlank()) {
                parts.add(part.trim());
            }
        }
        return parts;
    }

    private static int number(String word) {
        Integer named = NAMES.get(word);
        return named != null ? named : Integer.parseInt(word);
    }
}
