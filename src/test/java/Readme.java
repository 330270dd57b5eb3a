import java.io.IOException;
import java.lang.reflect.Method;
import java.nio.file.Files;
import java.nio.file.Path;
import java.util.regex.Matcher;
import java.util.regex.Pattern;

/** The example in README.md: each call that it tells answers what stands behind it. */
public final class Readme {
    private static final Pattern ROW = Pattern.compile("coins\\.(\\w+)\\(([-0-9, ]*)\\); *// (-?\\d+):.*");
    private static final Pattern TEXT = Pattern.compile(".*\"([^\"]*)\"\\.toCharArray\\(\\).*");

    public static void main(String[] args) throws IOException, ReflectiveOperationException {
        SlopeCoins coins = new SlopeCoins();
        int rows = 0;
        int wrong = 0;
        for (String line : Files.readAllLines(Path.of("README.md"))) {
            Matcher text = TEXT.matcher(line);
            if (text.matches()) {
                for (char sign : text.group(1).toCharArray()) {
                    coins.type(sign);
                }
            }
            Matcher row = ROW.matcher(line);
            if (row.matches()) {
                rows++;
                long got = ask(coins, row.group(1), row.group(2));
                if (got != Long.parseLong(row.group(3))) {
                    wrong++;
                    System.out.println(line + " answered " + got);
                }
            } else if (line.startsWith("coins.")) {
                wrong++;
                System.out.println("no row with an answer: " + line);
            }
        }
        System.out.println(rows + " rows of README.md, " + wrong + " not as due");
        if (wrong != 0 || rows < 10) {
            System.exit(1);
        }
    }

    private static long ask(SlopeCoins coins, String name, String told) throws ReflectiveOperationException {
        String[] words = told.isBlank() ? new String[0] : told.split(", *");
        Class<?>[] types = new Class<?>[words.length];
        Object[] numbers = new Object[words.length];
        for (int at = 0; at < words.length; at++) {
            types[at] = int.class;
            numbers[at] = Integer.parseInt(words[at]);
        }
        Method method = SlopeCoins.class.getMethod(name, types);
        return ((Number) method.invoke(coins, numbers)).longValue();
    }
}
