import java.util.ArrayList;
import java.util.List;
import java.util.Map;
import java.util.Random;
import java.util.TreeMap;
import java.util.TreeSet;

/** Runs of random calls, each answer compared with a slow model that tries everything by brute force. */
public final class RandomRuns {
    private static final int RUNS = 2000, SLOPES = 150, CALLS = 512;

    // deeds stand here often, so that there is something to ask about; what empties all stands once
    private static final String[] OFTEN = {"lets", "lets", "lets", "sets", "sets", "cobble", "undo", "saw"};
    private static final String[] ALL = {"lets", "sets", "takes", "cobble", "sweep", "now", "end", "doors", "planks", "paved",
        "rain", "feet", "apart", "rolls", "saw", "moved", "mark", "keep", "back", "count", "trace", "cell", "kind", "type", "undo"};
    private static final String[] SELDOM = {"forget", "clear", "city"};

    private static final Map<String, Integer> tried = new TreeMap<>();
    private static int wrong = 0;

    private final int run;
    private final Random random;
    private final SlopeCoins coins = new SlopeCoins();
    private final Model model = new Model();
    private final StringBuilder told = new StringBuilder();
    private int calls = 0;

    private RandomRuns(int run) {
        this.run = run;
        this.random = new Random(run);
    }

    public static void main(String[] args) {
        for (int run = 0; run < RUNS && wrong < 10; run++) {
            new RandomRuns(run).go();
        }
        for (int run = RUNS; run < RUNS + SLOPES && wrong < 10; run++) {
            new RandomRuns(run).askPlanks();
        }
        System.out.println(RUNS + " random runs, calls that were not BAD: " + tried);
        for (String[] names : new String[][] {ALL, SELDOM}) {
            for (String name : names) {
                if (tried.getOrDefault(name, 0) < 300) {
                    wrong++;
                    System.out.println(name + " was hardly tried");
                }
            }
        }
        if (wrong != 0) {
            System.exit(1);
        }
    }

    private void go() {
        boolean told = false;
        int before = wrong;
        while (calls < CALLS && wrong == before) {
            if (!told || calls < 300 && random.nextInt(150) == 0) {
                told = tellCity();
            } else {
                int dice = random.nextInt(100);
                String[] names = dice < 30 ? OFTEN : dice < 98 ? ALL : SELDOM;
                oneCall(names[random.nextInt(names.length)]);
            }
        }
    }

    /** Long slopes, where several sets of planks lead to the same door. */
    private void askPlanks() {
        StringBuilder text = new StringBuilder("g6 5 ");
        boolean north = random.nextBoolean();
        boolean west = random.nextBoolean();
        for (int at = 0; at < 30; at++) {
            int slope = (west ? at % 6 : 5 - at % 6) + (north ? at / 6 : 4 - at / 6);
            text.append(Math.max(0, Math.min(9, slope + random.nextInt(3) - 1)));
        }
        text.append(";c1 1 0;c1 1 1;");
        for (char sign : text.toString().toCharArray()) {
            check("type " + (int) sign, coins.type(sign), model.type(sign));
        }
        check("city", coins.city(), model.city());
        for (int times = 0; times < 12; times++) {
            int k = random.nextInt(2);
            int from = 10 * random.nextInt(6) + random.nextInt(5);
            int to = model.endBehindPlanks(model.kinds.get(k), from, random);
            for (int what = 0; what <= 2; what++) {
                check("planks " + k + " " + from + " " + to + " " + what, coins.planks(k, from, to, what), model.planks(k, from, to, what));
            }
        }
    }

    private boolean tellCity() {
        check("clear", coins.clear(), model.clear());
        for (char sign : randomCity(random).toCharArray()) {
            check("type " + (int) sign, coins.type(sign), model.type(sign));
        }
        int items = coins.city();
        check("city", items, model.city());
        return items >= 0;
    }

    private void check(String call, long got, long want) {
        calls++;
        told.append(' ').append(call).append(';');
        if (got != -1 && got != -1000000) {
            tried.merge(call.split(" ")[0], 1, Integer::sum);
        }
        if (got != want) {
            wrong++;
            System.out.println("run " + run + ":" + told + " answered " + got + ", due is " + want);
        }
    }

    private void oneCall(String name) {
        int k = near(random, model.kinds.size());
        int b = near(random, model.kinds.size());
        int x = near(random, model.wide);
        int y = near(random, model.high);
        int from = 10 * near(random, model.wide) + near(random, model.high);
        int to = 10 * near(random, model.wide) + near(random, model.high);
        int two = near(random, 2);
        int three = near(random, 3);
        int four = near(random, 4);
        int six = near(random, 6);
        int seven = near(random, 7);
        int c = near(random, 256);
        int end = random.nextInt(3) > 0 ? model.endPair(k, from, to) : to;
        String kxy = " " + k + " " + x + " " + y;
        String kft = " " + k + " " + from + " " + to;
        String xy = " " + x + " " + y;
        switch (name) {
            case "type": check("type " + c, coins.type(c), model.type(c)); break;
            case "clear": check("clear", coins.clear(), model.clear()); break;
            case "city": check("city", coins.city(), model.city()); break;
            case "cell": check("cell" + xy + " " + seven, coins.cell(x, y, seven), model.cell(x, y, seven)); break;
            case "kind": check("kind " + k + " " + three, coins.kind(k, three), model.kind(k, three)); break;
            case "lets": check("lets" + kxy, coins.lets(k, x, y), model.lets(k, x, y)); break;
            case "sets": check("sets" + xy + " " + four, coins.sets(x, y, four), model.sets(x, y, four)); break;
            case "takes": check("takes" + xy + " " + four, coins.takes(x, y, four), model.takes(x, y, four)); break;
            case "cobble": check("cobble" + xy + " " + two, coins.cobble(x, y, two), model.cobble(x, y, two)); break;
            case "sweep": check("sweep" + xy, coins.sweep(x, y), model.sweep(x, y)); break;
            case "undo": check("undo", coins.undo(), model.undo()); break;
            case "now": check("now " + seven, coins.now(seven), model.now(seven)); break;
            case "end": check("end" + kxy + " " + three, coins.end(k, x, y, three), model.end(k, x, y, three)); break;
            case "doors": check("doors" + kxy, coins.doors(k, x, y), model.doors(k, x, y)); break;
            case "planks": check("planks" + kft + " " + three, coins.planks(k, from, to, three), model.planks(k, from, to, three)); break;
            case "paved": check("paved" + kxy + " " + two, coins.paved(k, x, y, two), model.paved(k, x, y, two)); break;
            case "rain": check("rain " + two, coins.rain(two), model.rain(two)); break;
            case "feet": check("feet" + kft + " " + two, coins.feet(k, from, to, two), model.feet(k, from, to, two)); break;
            case "apart": check("apart " + k + " " + b, coins.apart(k, b), model.apart(k, b)); break;
            case "rolls": check("rolls", coins.rolls(), model.rolls()); break;
            case "saw": check("saw " + k + " " + from + " " + end, coins.saw(k, from, end), model.saw(k, from, end)); break;
            case "forget": check("forget", coins.forget(), model.forget()); break;
            case "moved": check("moved " + two, coins.moved(two), model.moved(two)); break;
            case "mark": check("mark " + six + xy, coins.mark(six, x, y), model.mark(six, x, y)); break;
            case "keep": check("keep " + two, coins.keep(two), model.keep(two)); break;
            case "back": check("back " + two, coins.back(two), model.back(two)); break;
            case "count": check("count " + seven, coins.count(seven), model.count(seven)); break;
            default: check("trace", coins.trace(), model.trace); break;
        }
    }

    /** A number of 0 .. many less 1, seldom one beyond it. */
    private static int near(Random random, int many) {
        int dice = random.nextInt(60);
        if (dice == 0) {
            return random.nextInt();
        }
        if (dice == 1) {
            return -1;
        }
        if (dice == 2) {
            return many;
        }
        return many < 1 ? 0 : random.nextInt(many);
    }

    private static String randomCity(Random random) {
        int wide = 1 + random.nextInt(6);
        int high = 1 + random.nextInt(5);
        int top = 1 + random.nextInt(10);
        StringBuilder text = new StringBuilder();
        blanks(text, random).append('g');
        blanks(text, random).append(wide).append(' ').append(high).append(' ');
        for (int at = 0; at < wide * high; at++) {
            if (random.nextInt(9) == 0) {
                blanks(text, random);
            }
            int slope = at % wide + at / wide;
            text.append(random.nextInt(3) == 0 ? slope : random.nextInt(top));
        }
        text.append(';');
        int items = random.nextInt(18);
        int kinds = 0;
        for (int item = 0; item < items; item++) {
            int dice = random.nextInt(3);
            StringBuilder one = new StringBuilder();
            if (dice == 0) {
                one.append('k').append(random.nextInt(wide)).append(' ').append(random.nextInt(high)).append(' ').append(random.nextInt(4));
            } else if (dice == 1 && random.nextInt(3) > 0) {
                one.append('o').append(random.nextInt(wide)).append(' ').append(random.nextInt(high)).append(' ').append(1 + random.nextInt(9));
            } else if (kinds < 5 || random.nextInt(5) == 0) {
                kinds++;
                one.append('c').append(1 + random.nextInt(9)).append(' ').append(1 + random.nextInt(99)).append(' ').append(random.nextInt(2));
            } else {
                continue;
            }
            blanks(one, random).append(';');
            if (text.length() + one.length() <= 200) {
                text.append(one);
            }
        }
        return random.nextInt(3) == 0 ? spoilt(text, random) : text.toString();
    }

    private static String spoilt(StringBuilder text, Random random) {
        String signs = "0123456789 ;;gkoczA-\t\u00e9";
        for (int times = 1 + random.nextInt(2); times > 0; times--) {
            int at = random.nextInt(text.length());
            char sign = signs.charAt(random.nextInt(signs.length()));
            int dice = random.nextInt(4);
            if (dice == 0) {
                text.setCharAt(at, sign);
            } else if (dice == 1) {
                text.insert(at, sign);
            } else if (dice == 2 && text.length() > 1) {
                text.deleteCharAt(at);
            } else if (random.nextInt(4) == 0) {
                text.setLength(at + 1);
            }
        }
        return text.length() > 200 ? text.substring(0, 200) : text.toString();
    }

    private static StringBuilder blanks(StringBuilder text, Random random) {
        for (int many = random.nextInt(8) == 0 ? random.nextInt(3) : 0; many > 0; many--) {
            text.append(' ');
        }
        return text;
    }

    /** A token of the text that can't stand where it stands. */
    private static final class Fault extends RuntimeException {
        private static final long serialVersionUID = 1L;
        final int place;

        Fault(int place) {
            this.place = place;
        }
    }

    /** What an image keeps. */
    private static final class Now {
        int[][] height;
        TreeSet<Integer> planks = new TreeSet<>();
        // each coin: kind, x, y, 1 if it is in
        List<int[]> coins = new ArrayList<>();
        List<Now> before = new ArrayList<>();

        Now copy() {
            Now copy = new Now();
            copy.height = new int[height.length][];
            for (int x = 0; x < height.length; x++) {
                copy.height[x] = height[x].clone();
            }
            copy.planks.addAll(planks);
            copy.coins.addAll(coins);
            copy.before.addAll(before);
            return copy;
        }
    }

    private static final class Model {
        static final int[] DX = {0, 1, 0, -1}, DY = {-1, 0, 1, 0};
        String text = "";
        int wide;
        int high;
        TreeSet<Integer> kerbs = new TreeSet<>();
        int[][] grating = new int[0][0];
        int gratings;
        List<int[]> kinds = new ArrayList<>();
        Now now = new Now();
        Now[] images = new Now[2];
        List<int[]> seen = new ArrayList<>();
        long trace;

        Model() {
            now.height = new int[0][0];
        }

        int type(int c) {
            if (c < 0 || c > 255) {
                return -1;
            }
            if (text.length() == 200) {
                return -3;
            }
            text += (char) c;
            return text.length();
        }

        int clear() {
            int had = text.length();
            text = "";
            return had;
        }

        // the text

        int at;

        int skip() {
            while (at < text.length() && text.charAt(at) == ' ') {
                at++;
            }
            return at;
        }

        String token() {
            int start = skip();
            if (start == text.length()) {
                throw new Fault(start);
            }
            String rest = text.substring(start);
            String all = rest.replaceFirst("(?s)^([a-z]+|[0-9]+|;).*$", "$1");
            if (!all.matches("[a-z]+|0|[1-9][0-9]?|;")) {
                throw new Fault(start);
            }
            at = start + all.length();
            return all;
        }

        int number(int least, int most) {
            int start = skip();
            String token = token();
            if (!Character.isDigit(token.charAt(0)) || Integer.parseInt(token) < least || Integer.parseInt(token) > most) {
                throw new Fault(start);
            }
            return Integer.parseInt(token);
        }

        int city() {
            Model fresh = new Model();
            fresh.text = text;
            try {
                int items = 0;
                while (fresh.skip() < text.length()) {
                    fresh.item(items == 0);
                    items++;
                }
                text = "";
                wide = fresh.wide;
                high = fresh.high;
                kerbs = fresh.kerbs;
                grating = fresh.grating;
                gratings = fresh.gratings;
                kinds = fresh.kinds;
                now = fresh.now;
                images = new Now[2];
                seen.clear();
                return items;
            } catch (Fault fault) {
                return -10 - fault.place;
            }
        }

        void item(boolean first) {
            int start = skip();
            String name = token();
            if (first ? !name.equals("g") : !name.matches("[koc]")) {
                throw new Fault(start);
            }
            if (name.equals("g")) {
                wide = number(1, 6);
                high = number(1, 5);
                now.height = new int[wide][high];
                grating = new int[wide][high];
                for (int y = 0; y < high; y++) {
                    for (int x = 0; x < wide; x++) {
                        if (skip() == text.length() || text.charAt(at) < '0' || text.charAt(at) > '9') {
                            throw new Fault(at);
                        }
                        now.height[x][y] = text.charAt(at++) - '0';
                    }
                }
            } else if (name.equals("k")) {
                kerbs.add(side(number(0, wide - 1), number(0, high - 1), number(0, 3)));
            } else if (name.equals("o")) {
                if (gratings == 4) {
                    throw new Fault(start);
                }
                gratings++;
                int x = number(0, wide - 1);
                int place = skip();
                int y = number(0, high - 1);
                if (grating[x][y] != 0) {
                    throw new Fault(place);
                }
                grating[x][y] = number(1, 9);
            } else {
                if (kinds.size() == 5) {
                    throw new Fault(start);
                }
                kinds.add(new int[] {number(1, 9), number(1, 99), number(0, 1)});
            }
            int end = skip();
            if (!token().equals(";")) {
                throw new Fault(end);
            }
        }

        // sides are numbered by the cell at their north or west: bits, then east ahead of south

        int side(int x, int y, int way) {
            if (way == 0) {
                return side(x, y - 1, 2);
            }
            if (way == 3) {
                return side(x - 1, y, 1);
            }
            return 2 * (wide * y + x) + (way == 2 ? 1 : 0) + 1000 * (x < 0 || y < 0 ? 1 : 0);
        }

        boolean isCell(int x, int y) {
            return x >= 0 && y >= 0 && x < wide && y < high;
        }

        boolean isPair(int pair) {
            return pair >= 0 && isCell(pair / 10, pair % 10);
        }

        boolean isKind(int k) {
            return k >= 0 && k < kinds.size();
        }

        boolean shut(int x, int y, int way) {
            int side = side(x, y, way);
            return !isCell(x + DX[way], y + DY[way]) || kerbs.contains(side) || now.planks.contains(side);
        }

        /** All cells it was in, as pairs, and 1 behind them if it fell in, else 0. */
        List<Integer> path(int[] kind, int x, int y) {
            List<Integer> path = new ArrayList<>();
            int came = -1;
            while (true) {
                path.add(10 * x + y);
                if (grating[x][y] != 0 && kind[0] <= grating[x][y]) {
                    path.add(1);
                    return path;
                }
                int best = -1;
                int bestRank = Integer.MAX_VALUE;
                for (int way = 0; way < 4; way++) {
                    if (shut(x, y, way)) {
                        continue;
                    }
                    int next = now.height[x + DX[way]][y + DY[way]];
                    int turn = way == came ? 0 : 1 + (kind[2] == 1 ? 3 - way : way);
                    int rank = 10 * next + turn;
                    if (next < now.height[x][y] && rank < bestRank) {
                        best = way;
                        bestRank = rank;
                    }
                }
                if (best < 0) {
                    path.add(0);
                    return path;
                }
                x += DX[best];
                y += DY[best];
                came = best;
            }
        }

        int endCode(int[] kind, int x, int y) {
            List<Integer> path = path(kind, x, y);
            return path.get(path.size() - 2) + 100 * path.get(path.size() - 1);
        }

        boolean ends(int[] kind, int from, int to) {
            return endCode(kind, from / 10, from % 10) % 100 == to;
        }

        int endPair(int k, int from, int otherwise) {
            return isKind(k) && isPair(from) ? endCode(kinds.get(k), from / 10, from % 10) % 100 : otherwise;
        }

        /** Where it ends if two sides that it crosses are shut: a door that planks lead to. */
        int endBehindPlanks(int[] kind, int from, Random random) {
            TreeSet<Integer> before = new TreeSet<>(now.planks);
            for (int times = 0; times < 2; times++) {
                List<Integer> path = path(kind, from / 10, from % 10);
                if (path.size() > 2) {
                    int step = random.nextInt(path.size() - 2);
                    int pair = path.get(step);
                    int next = path.get(step + 1);
                    int way = next == pair - 1 ? 0 : next == pair + 10 ? 1 : next == pair + 1 ? 2 : 3;
                    now.planks.add(side(pair / 10, pair % 10, way));
                }
            }
            int end = endCode(kind, from / 10, from % 10) % 100;
            now.planks = before;
            return end;
        }

        int bit(int pair) {
            return 1 << wide * (pair % 10) + pair / 10;
        }

        List<Integer> pairs() {
            List<Integer> pairs = new ArrayList<>();
            for (int y = 0; y < high; y++) {
                for (int x = 0; x < wide; x++) {
                    pairs.add(10 * x + y);
                }
            }
            return pairs;
        }

        int cell(int x, int y, int what) {
            if (!isCell(x, y) || what < 0 || what > 6) {
                return -1;
            }
            if (what == 0) {
                return now.height[x][y];
            }
            if (what == 1) {
                return grating[x][y];
            }
            if (what == 6) {
                int bits = 0;
                for (int way = 0; way < 4; way++) {
                    bits |= shut(x, y, way) ? 1 << way : 0;
                }
                return bits;
            }
            return coins(10 * x + y, what >= 4 ? 1 : 0, what % 2 == 1);
        }

        /** Coins at a pair (or all: -1) that lie (0) or are in (1): how many, or their worth. */
        int coins(int pair, int in, boolean worth) {
            int sum = 0;
            for (int[] coin : now.coins) {
                if (coin[3] == in && (pair < 0 || pair == 10 * coin[1] + coin[2])) {
                    sum += worth ? kinds.get(coin[0])[1] : 1;
                }
            }
            return sum;
        }

        int kind(int k, int what) {
            return !isKind(k) || what < 0 || what > 2 ? -1 : kinds.get(k)[what];
        }

        // what is done

        void deed() {
            List<Now> before = now.before;
            Now old = now.copy();
            old.before = new ArrayList<>();
            before.add(old);
            if (before.size() > 10) {
                before.remove(0);
            }
        }

        int lets(int k, int x, int y) {
            if (!isKind(k) || !isCell(x, y)) {
                return -1;
            }
            int end = endCode(kinds.get(k), x, y);
            deed();
            now.coins.add(new int[] {k, end % 100 / 10, end % 10, end / 100});
            return end;
        }

        int sets(int x, int y, int way) {
            if (!isCell(x, y) || way < 0 || way > 3) {
                return -1;
            }
            if (shut(x, y, way)) {
                return -2;
            }
            if (now.planks.size() == 8) {
                return -3;
            }
            deed();
            now.planks.add(side(x, y, way));
            return now.planks.size();
        }

        int takes(int x, int y, int way) {
            if (!isCell(x, y) || way < 0 || way > 3) {
                return -1;
            }
            if (!isCell(x + DX[way], y + DY[way]) || !now.planks.contains(side(x, y, way))) {
                return -2;
            }
            deed();
            now.planks.remove(side(x, y, way));
            return now.planks.size();
        }

        int cobble(int x, int y, int up) {
            if (!isCell(x, y) || up < 0 || up > 1) {
                return -1;
            }
            int height = now.height[x][y] + 2 * up - 1;
            if (height < 0 || height > 9) {
                return -2;
            }
            deed();
            now.height[x][y] = height;
            return height;
        }

        int sweep(int x, int y) {
            if (!isCell(x, y)) {
                return -1;
            }
            if (coins(10 * x + y, 0, false) == 0) {
                return -2;
            }
            int worth = coins(10 * x + y, 0, true);
            deed();
            now.coins.removeIf(coin -> coin[1] == x && coin[2] == y && coin[3] == 0);
            return worth;
        }

        int undo() {
            if (now.before.isEmpty()) {
                return -2;
            }
            List<Now> before = now.before;
            // an image may hold the same one, so it is copied
            now = before.remove(before.size() - 1).copy();
            now.before = before;
            return before.size();
        }

        int now(int what) {
            switch (what) {
                case 0: return now.coins.size();
                case 1: return coins(-1, 0, false);
                case 2: return coins(-1, 0, true);
                case 3: return coins(-1, 1, false);
                case 4: return coins(-1, 1, true);
                case 5: return now.planks.size();
                case 6: return so() ? 1 : 0;
                default: return -1;
            }
        }

        // where they roll

        int end(int k, int x, int y, int what) {
            if (!isKind(k) || !isCell(x, y) || what < 0 || what > 2) {
                return -1;
            }
            List<Integer> path = path(kinds.get(k), x, y);
            if (what == 0) {
                return endCode(kinds.get(k), x, y);
            }
            if (what == 1) {
                return path.size() - 2;
            }
            return path.subList(0, path.size() - 1).stream().mapToInt(this::bit).sum();
        }

        int doors(int k, int x, int y) {
            if (!isKind(k) || !isCell(x, y)) {
                return -1;
            }
            int bits = 0;
            for (int from : pairs()) {
                bits += ends(kinds.get(k), from, 10 * x + y) ? bit(from) : 0;
            }
            return bits;
        }

        int planks(int k, int from, int to, int what) {
            if (!isKind(k) || !isPair(from) || !isPair(to) || what < 0 || what > 2) {
                return -1;
            }
            int[] kind = kinds.get(k);
            if (ends(kind, from, to)) {
                return what == 0 ? 0 : -5;
            }
            List<int[]> sides = new ArrayList<>();
            for (int pair : pairs()) {
                for (int way = 1; way <= 2; way++) {
                    if (!shut(pair / 10, pair % 10, way)) {
                        sides.add(new int[] {10 * pair + way - 1, side(pair / 10, pair % 10, way)});
                    }
                }
            }
            for (int[] one : sides) {
                now.planks.add(one[1]);
                boolean found = ends(kind, from, to);
                now.planks.remove(one[1]);
                if (found) {
                    return new int[] {1, one[0], -5}[what];
                }
            }
            for (int first = 0; first < sides.size(); first++) {
                now.planks.add(sides.get(first)[1]);
                for (int second = first + 1; second < sides.size(); second++) {
                    now.planks.add(sides.get(second)[1]);
                    boolean found = ends(kind, from, to);
                    now.planks.remove(sides.get(second)[1]);
                    if (found) {
                        now.planks.remove(sides.get(first)[1]);
                        return new int[] {2, sides.get(first)[0], sides.get(second)[0]}[what];
                    }
                }
                now.planks.remove(sides.get(first)[1]);
            }
            return -9;
        }

        int paved(int k, int x, int y, int what) {
            if (!isKind(k) || !isCell(x, y) || what < 0 || what > 1) {
                return -1;
            }
            int best = -9;
            int most = -9;
            for (int pair : pairs()) {
                if (now.height[pair / 10][pair % 10] > 0) {
                    now.height[pair / 10][pair % 10]--;
                    int many = Integer.bitCount(doors(k, x, y));
                    now.height[pair / 10][pair % 10]++;
                    if (many > most) {
                        most = many;
                        best = pair;
                    }
                }
            }
            return what == 0 ? best : most;
        }

        int rain(int what) {
            if (what < 0 || what > 1) {
                return -1;
            }
            int best = -9;
            int most = 0;
            for (int door : pairs()) {
                int many = 0;
                for (int from : pairs()) {
                    many += ends(new int[] {1, 1, 0}, from, door) ? 1 : 0;
                }
                if (many > most) {
                    most = many;
                    best = door;
                }
            }
            return what == 0 ? best : most;
        }

        int feet(int k, int from, int to, int what) {
            if (!isKind(k) || !isPair(from) || !isPair(to) || what < 0 || what > 1) {
                return -1;
            }
            int upper = 0;
            int lower = 0;
            for (int pair : pairs()) {
                if (Math.abs(pair / 10 - from / 10) + Math.abs(pair % 10 - from % 10) <= 1) {
                    lower++;
                    upper += ends(kinds.get(k), pair, to) ? 1 : 0;
                }
            }
            int shared = java.math.BigInteger.valueOf(upper).gcd(java.math.BigInteger.valueOf(lower)).intValue();
            return (what == 0 ? upper : lower) / shared;
        }

        int apart(int a, int b) {
            if (!isKind(a) || !isKind(b) || a == b) {
                return -1;
            }
            int bits = 0;
            for (int pair : pairs()) {
                if (endCode(kinds.get(a), pair / 10, pair % 10) != endCode(kinds.get(b), pair / 10, pair % 10)) {
                    bits += bit(pair);
                }
            }
            return bits;
        }

        int rolls() {
            List<Integer> all = new ArrayList<>();
            for (int a = 0; a < kinds.size(); a++) {
                for (int b = 0; b < a; b++) {
                    all.add(apart(a, b));
                }
            }
            int best = -9;
            int fewest = 4;
            for (int a = 0; a <= wide * high; a++) {
                for (int b = a; b <= wide * high; b++) {
                    for (int c = b; c <= wide * high; c++) {
                        // one cell beyond the last stands for none
                        int set = (1 << a | 1 << b | 1 << c) & (1 << wide * high) - 1;
                        int many = Integer.bitCount(set);
                        boolean better = many < fewest || many == fewest && set < best;
                        if (better && all.stream().allMatch(bits -> (bits & set) != 0)) {
                            best = set;
                            fewest = many;
                        }
                    }
                }
            }
            return best;
        }

        // what was seen

        boolean so() {
            return seen.stream().allMatch(one -> ends(kinds.get(one[0]), one[1], one[2]));
        }

        int saw(int k, int from, int to) {
            if (!isKind(k) || !isPair(from) || !isPair(to)) {
                return -1;
            }
            if (seen.size() == 6) {
                return -3;
            }
            seen.add(new int[] {k, from, to});
            return seen.size();
        }

        int forget() {
            int had = seen.size();
            seen.clear();
            return had;
        }

        int moved(int what) {
            if (what < 0 || what > 1) {
                return -1;
            }
            List<Integer> found = new ArrayList<>();
            for (int pair : pairs()) {
                int[] column = now.height[pair / 10];
                int height = column[pair % 10];
                for (int up = 0; up <= 1; up++) {
                    column[pair % 10] = height + 2 * up - 1;
                    if (column[pair % 10] >= 0 && column[pair % 10] <= 9 && so()) {
                        found.add(10 * pair + up);
                    }
                }
                column[pair % 10] = height;
            }
            return what == 0 ? found.size() : found.isEmpty() ? -9 : found.get(0);
        }

        // kinds, images

        int mark(int of, int x, int y) {
            if (of < 0 || of > 5 || !isCell(x, y)) {
                return -1000000;
            }
            int height = now.height[x][y];
            int lie = cell(x, y, 2);
            int sides = Integer.bitCount(cell(x, y, 6));
            trace += new int[] {1, 11, 101, 1011, 10101, 100001}[of];
            return new int[] {height, height + sides, height - lie, 2 * (height + sides),
                height - lie + cell(x, y, 3), height + grating[x][y]}[of];
        }

        int keep(int image) {
            if (image < 0 || image > 1) {
                return -1;
            }
            images[image] = now.copy();
            return coins(-1, 0, false);
        }

        int back(int image) {
            if (image < 0 || image > 1) {
                return -1;
            }
            if (images[image] == null) {
                return -2;
            }
            now = images[image].copy();
            return coins(-1, 0, false);
        }

        int count(int what) {
            return what < 0 || what > 6 ? -1
                : new int[] {wide, high, gratings, kinds.size(), seen.size(), now.before.size(), text.length()}[what];
        }
    }
}
