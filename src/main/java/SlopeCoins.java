import java.util.Arrays;

/** Coins that roll down a city's slopes; DOC.md says what each call answers. */
public final class SlopeCoins {
    public static final int BAD = -1, STATE = -2, FULL = -3, NONE = -9;
    public static final int NO = -1000000;

    private static final int MOST_TEXT = 200, MOST_WIDE = 6, MOST_HIGH = 5, MOST_CELLS = 30;
    private static final int MOST_GRATINGS = 4, MOST_KINDS = 5, MOST_WORTH = 99, MOST_SIZE = 9;
    private static final int TOP = 9, MOST_COINS = 999, MOST_PLANKS = 8, MOST_DEEDS = 10;
    private static final int MOST_SEEN = 6, IMAGES = 2, WAYS = 4;
    private static final int NOWHERE = -1, NO_WAY = -1, NO_SIDE = -1;
    private static final int NOT_SO_MANY = -5, FAULT_BASE = -10, FELL_IN = 100;

    private final char[] text = new char[MOST_TEXT];
    private int textLength;
    private City city = new City();
    // a text is read into the spare city, so that a fault leaves the other one untouched
    private City spare = new City();
    private final Reader reader = new Reader();
    private final Ground ground = new Ground();
    private final Ground[] images = new Ground[IMAGES];
    private final boolean[] kept = new boolean[IMAGES];
    private final Roll roll = new Roll();
    private final PlankSearch search = new PlankSearch();
    private final CellKind[] bodies = new CellKind[6];
    private final int[] tally = new int[MOST_CELLS];
    private final int[] seenKind = new int[MOST_SEEN];
    private final int[] seenFrom = new int[MOST_SEEN];
    private final int[] seenTo = new int[MOST_SEEN];
    private int seen;
    private long traced;

    public SlopeCoins() {
        for (int image = 0; image < IMAGES; image++) {
            images[image] = new Ground();
        }
        bodies[0] = new CellKind();
        bodies[1] = new StreetKind();
        bodies[2] = new SquareKind();
        bodies[3] = new LaneKind();
        bodies[4] = new BendKind();
        bodies[5] = new LodgeKind();
    }

    // ---- the city

    public int type(int c) {
        if (c < 0 || c > 255) {
            return BAD;
        }
        if (textLength >= MOST_TEXT) {
            return FULL;
        }
        text[textLength] = (char) c;
        textLength++;
        return textLength;
    }

    public int clear() {
        int had = textLength;
        textLength = 0;
        return had;
    }

    public int city() {
        int items = reader.readText(text, textLength, spare);
        if (items < 0) {
            return items;
        }
        City told = spare;
        spare = city;
        city = told;
        ground.layOut(city);
        textLength = 0;
        seen = 0;
        for (int image = 0; image < IMAGES; image++) {
            kept[image] = false;
        }
        return items;
    }

    public int cell(int x, int y, int what) {
        int at = city.cellAt(x, y);
        if (at == NOWHERE) {
            return BAD;
        }
        switch (what) {
            case 0:
                return ground.height[at];
            case 1:
                return city.grating[at];
            case 2:
                return ground.lie[at];
            case 3:
                return ground.lieWorth[at];
            case 4:
                return ground.in[at];
            case 5:
                return ground.inWorth[at];
            case 6:
                return shutWays(at);
            default:
                return BAD;
        }
    }

    public int kind(int k, int what) {
        if (!isKind(k)) {
            return BAD;
        }
        switch (what) {
            case 0:
                return city.size[k];
            case 1:
                return city.worth[k];
            case 2:
                return city.forged[k];
            default:
                return BAD;
        }
    }

    // ---- what is done

    public int lets(int k, int x, int y) {
        int from = city.cellAt(x, y);
        if (!isKind(k) || from == NOWHERE) {
            return BAD;
        }
        if (sumOf(ground.lie) + sumOf(ground.in) >= MOST_COINS) {
            return STATE;
        }
        roll.goAs(city, ground, k, from);
        ground.letCome(roll.at, roll.fell, city.worth[k]);
        return endCode();
    }

    public int sets(int x, int y, int way) {
        int at = city.cellAt(x, y);
        if (at == NOWHERE || !isWay(way)) {
            return BAD;
        }
        if ((shutWays(at) >> way & 1) != 0) {
            return STATE;
        }
        if (ground.planks >= MOST_PLANKS) {
            return FULL;
        }
        return ground.changePlank(city, at, way);
    }

    public int takes(int x, int y, int way) {
        int at = city.cellAt(x, y);
        if (at == NOWHERE || !isWay(way)) {
            return BAD;
        }
        if ((ground.plank[at] >> way & 1) == 0) {
            return STATE;
        }
        return ground.changePlank(city, at, way);
    }

    public int cobble(int x, int y, int up) {
        int at = city.cellAt(x, y);
        if (at == NOWHERE || up != 0 && up != 1) {
            return BAD;
        }
        int by = up == 1 ? 1 : -1;
        if (!isHeight(ground.height[at] + by)) {
            return STATE;
        }
        return ground.moveCobble(at, by);
    }

    public int sweep(int x, int y) {
        int at = city.cellAt(x, y);
        if (at == NOWHERE) {
            return BAD;
        }
        if (ground.lie[at] == 0) {
            return STATE;
        }
        return ground.sweepAway(at);
    }

    public int undo() {
        if (ground.deeds < 1) {
            return STATE;
        }
        return ground.takeBack(city);
    }

    public int now(int what) {
        switch (what) {
            case 0:
                return sumOf(ground.lie) + sumOf(ground.in);
            case 1:
                return sumOf(ground.lie);
            case 2:
                return sumOf(ground.lieWorth);
            case 3:
                return sumOf(ground.in);
            case 4:
                return sumOf(ground.inWorth);
            case 5:
                return ground.planks;
            case 6:
                return allSeenIsSo() ? 1 : 0;
            default:
                return BAD;
        }
    }

    // ---- where they roll

    public int end(int k, int x, int y, int what) {
        int from = city.cellAt(x, y);
        if (!isKind(k) || from == NOWHERE || what < 0 || what > 2) {
            return BAD;
        }
        roll.goAs(city, ground, k, from);
        if (what == 0) {
            return endCode();
        }
        return what == 1 ? roll.steps : roll.past;
    }

    public int doors(int k, int x, int y) {
        int door = city.cellAt(x, y);
        if (!isKind(k) || door == NOWHERE) {
            return BAD;
        }
        return doorBits(k, door);
    }

    public int planks(int k, int from, int to, int what) {
        int start = city.cellOfPair(from);
        int goal = city.cellOfPair(to);
        if (!isKind(k) || start == NOWHERE || goal == NOWHERE || what < 0 || what > 2) {
            return BAD;
        }
        search.seek(city, ground, k, start, goal);
        if (search.fewest == NONE || what == 0) {
            return search.fewest;
        }
        if (search.fewest < what) {
            return NOT_SO_MANY;
        }
        return sideCode(what == 1 ? search.first : search.second);
    }

    public int paved(int k, int x, int y, int what) {
        int door = city.cellAt(x, y);
        if (!isKind(k) || door == NOWHERE || what != 0 && what != 1) {
            return BAD;
        }
        int best = NOWHERE;
        int most = NONE;
        for (int at = 0; at < city.cells; at++) {
            if (ground.height[at] > 0) {
                int many = doorsWithout(k, door, at);
                if (many > most) {
                    most = many;
                    best = at;
                }
            }
        }
        if (best == NOWHERE) {
            return NONE;
        }
        return what == 0 ? city.pairOf(best) : most;
    }

    public int rain(int what) {
        if (what != 0 && what != 1) {
            return BAD;
        }
        Arrays.fill(tally, 0);
        for (int from = 0; from < city.cells; from++) {
            roll.go(city, ground, 1, false, from);
            tally[roll.at]++;
        }
        int best = NOWHERE;
        int most = 0;
        for (int at = 0; at < city.cells; at++) {
            if (tally[at] > most) {
                most = tally[at];
                best = at;
            }
        }
        if (what == 1) {
            return most;
        }
        return best == NOWHERE ? NONE : city.pairOf(best);
    }

    public int feet(int k, int from, int to, int what) {
        int start = city.cellOfPair(from);
        int door = city.cellOfPair(to);
        if (!isKind(k) || start == NOWHERE || door == NOWHERE || what != 0 && what != 1) {
            return BAD;
        }
        int upper = endsAt(k, start, door) ? 1 : 0;
        int lower = 1;
        for (int way = 0; way < WAYS; way++) {
            int next = city.besideOf(start, way);
            if (next != NOWHERE) {
                lower++;
                upper += endsAt(k, next, door) ? 1 : 0;
            }
        }
        int shared = sharedDivisor(upper, lower);
        return (what == 0 ? upper : lower) / shared;
    }

    public int apart(int a, int b) {
        if (!isKind(a) || !isKind(b) || a == b) {
            return BAD;
        }
        return apartBits(a, b);
    }

    public int rolls() {
        int all = 0;
        int pair = 0;
        Arrays.fill(tally, 0);
        for (int a = 0; a < city.kinds; a++) {
            for (int b = a + 1; b < city.kinds; b++) {
                noteTold(apartBits(a, b), 1 << pair);
                all |= 1 << pair;
                pair++;
            }
        }
        return fewestTelling(all);
    }

    // ---- what was seen

    public int saw(int k, int from, int to) {
        int start = city.cellOfPair(from);
        int goal = city.cellOfPair(to);
        if (!isKind(k) || start == NOWHERE || goal == NOWHERE) {
            return BAD;
        }
        if (seen >= MOST_SEEN) {
            return FULL;
        }
        seenKind[seen] = k;
        seenFrom[seen] = start;
        seenTo[seen] = goal;
        seen++;
        return seen;
    }

    public int forget() {
        int had = seen;
        seen = 0;
        return had;
    }

    public int moved(int what) {
        if (what != 0 && what != 1) {
            return BAD;
        }
        int many = 0;
        int first = NONE;
        for (int at = 0; at < city.cells; at++) {
            for (int up = 0; up <= 1; up++) {
                if (isSoWithCobble(at, up == 1 ? 1 : -1)) {
                    if (many == 0) {
                        first = 10 * city.pairOf(at) + up;
                    }
                    many++;
                }
            }
        }
        return what == 0 ? many : first;
    }

    // ---- kinds, images

    public int mark(int of, int x, int y) {
        int at = city.cellAt(x, y);
        if (of < 0 || of >= bodies.length || at == NOWHERE) {
            return NO;
        }
        return bodies[of].ask(this, at);
    }

    public int keep(int image) {
        if (!isImage(image)) {
            return BAD;
        }
        images[image].copyOf(ground);
        kept[image] = true;
        return sumOf(ground.lie);
    }

    public int back(int image) {
        if (!isImage(image)) {
            return BAD;
        }
        if (!kept[image]) {
            return STATE;
        }
        ground.copyOf(images[image]);
        return sumOf(ground.lie);
    }

    public int count(int what) {
        switch (what) {
            case 0:
                return city.wide;
            case 1:
                return city.high;
            case 2:
                return city.gratings;
            case 3:
                return city.kinds;
            case 4:
                return seen;
            case 5:
                return ground.deeds;
            case 6:
                return textLength;
            default:
                return BAD;
        }
    }

    public long trace() {
        return traced;
    }

    private boolean isKind(int k) {
        return k >= 0 && k < city.kinds;
    }

    private static boolean isWay(int way) {
        return way >= 0 && way < WAYS;
    }

    private static boolean isImage(int image) {
        return image >= 0 && image < IMAGES;
    }

    private static boolean isHeight(int height) {
        return height >= 0 && height <= TOP;
    }

    private int shutWays(int at) {
        return city.kerbs[at] | ground.plank[at];
    }

    private int sumOf(int[] row) {
        int sum = 0;
        for (int at = 0; at < city.cells && at < row.length; at++) {
            sum += row[at];
        }
        return sum;
    }

    private int endCode() {
        return city.pairOf(roll.at) + (roll.fell ? FELL_IN : 0);
    }

    private int endOf(int k, int from) {
        roll.goAs(city, ground, k, from);
        return endCode();
    }

    private boolean endsAt(int k, int from, int door) {
        roll.goAs(city, ground, k, from);
        return roll.at == door;
    }

    private int doorBits(int k, int door) {
        int bits = 0;
        for (int from = 0; from < city.cells; from++) {
            if (endsAt(k, from, door)) {
                bits |= 1 << from;
            }
        }
        return bits;
    }

    private int doorsWithout(int k, int door, int cobbleAt) {
        ground.height[cobbleAt]--;
        int many = Integer.bitCount(doorBits(k, door));
        ground.height[cobbleAt]++;
        return many;
    }

    private int sideCode(int side) {
        return 10 * city.pairOf(side / 2) + side % 2;
    }

    private static int sharedDivisor(int upper, int lower) {
        // a fraction of FEET has five at most as its lower number
        for (int shared = WAYS + 1; shared > 1; shared--) {
            if (upper % shared == 0 && lower % shared == 0) {
                return shared;
            }
        }
        return 1;
    }

    private int apartBits(int a, int b) {
        int bits = 0;
        for (int from = 0; from < city.cells; from++) {
            if (endOf(a, from) != endOf(b, from)) {
                bits |= 1 << from;
            }
        }
        return bits;
    }

    private void noteTold(int cells, int pairBit) {
        for (int from = 0; from < city.cells; from++) {
            if ((cells >> from & 1) != 0) {
                tally[from] |= pairBit;
            }
        }
    }

    /** The highest cell is the outer loop, so that the first set found has the least bits. */
    private int fewestTelling(int all) {
        if (all == 0) {
            return 0;
        }
        for (int high = 0; high < city.cells; high++) {
            if (tally[high] == all) {
                return 1 << high;
            }
        }
        for (int high = 1; high < city.cells; high++) {
            int low = partnerBelow(high, tally[high], all);
            if (low != NOWHERE) {
                return 1 << high | 1 << low;
            }
        }
        for (int high = 2; high < city.cells; high++) {
            for (int middle = 1; middle < high; middle++) {
                int low = partnerBelow(middle, tally[high] | tally[middle], all);
                if (low != NOWHERE) {
                    return 1 << high | 1 << middle | 1 << low;
                }
            }
        }
        return NONE;
    }

    private int partnerBelow(int bound, int told, int all) {
        for (int low = 0; low < bound; low++) {
            if ((told | tally[low]) == all) {
                return low;
            }
        }
        return NOWHERE;
    }

    private boolean allSeenIsSo() {
        for (int one = 0; one < seen; one++) {
            if (!endsAt(seenKind[one], seenFrom[one], seenTo[one])) {
                return false;
            }
        }
        return true;
    }

    private boolean isSoWithCobble(int at, int by) {
        if (!isHeight(ground.height[at] + by)) {
            return false;
        }
        ground.height[at] += by;
        boolean so = allSeenIsSo();
        ground.height[at] -= by;
        return so;
    }

    /** The city as its text tells it; what changes afterwards is the Ground's. */
    private static final class City {
        int wide;
        int high;
        int cells;
        int gratings;
        int kinds;
        final int[] height = new int[MOST_CELLS];
        final int[] kerbs = new int[MOST_CELLS];
        final int[] grating = new int[MOST_CELLS];
        final int[] beside = new int[WAYS * MOST_CELLS];
        final int[] size = new int[MOST_KINDS];
        final int[] worth = new int[MOST_KINDS];
        final int[] forged = new int[MOST_KINDS];

        void wipe() {
            wide = 0;
            high = 0;
            cells = 0;
            gratings = 0;
            kinds = 0;
            Arrays.fill(kerbs, 0);
            Arrays.fill(grating, 0);
        }

        /** The edge becomes kerbs here, so that no roll has to look for it. */
        void stretch(int toWide, int toHigh) {
            wide = toWide;
            high = toHigh;
            cells = toWide * toHigh;
            for (int y = 0; y < high; y++) {
                for (int x = 0; x < wide; x++) {
                    int at = cellAt(x, y);
                    noteBeside(at, 0, cellAt(x, y - 1));
                    noteBeside(at, 1, cellAt(x + 1, y));
                    noteBeside(at, 2, cellAt(x, y + 1));
                    noteBeside(at, 3, cellAt(x - 1, y));
                }
            }
        }

        void noteBeside(int at, int way, int next) {
            beside[WAYS * at + way] = next;
            if (next == NOWHERE) {
                kerbs[at] |= 1 << way;
            }
        }

        void addKerb(int at, int way) {
            kerbs[at] |= 1 << way;
            int next = besideOf(at, way);
            if (next != NOWHERE) {
                kerbs[next] |= 1 << facing(way);
            }
        }

        void addKind(int itsSize, int itsWorth, int isForged) {
            if (kinds < MOST_KINDS) {
                size[kinds] = itsSize;
                worth[kinds] = itsWorth;
                forged[kinds] = isForged;
                kinds++;
            }
        }

        int cellAt(int x, int y) {
            return x >= 0 && x < wide && y >= 0 && y < high ? wide * y + x : NOWHERE;
        }

        int cellOfPair(int pair) {
            return pair < 0 ? NOWHERE : cellAt(pair / 10, pair % 10);
        }

        int pairOf(int at) {
            return wide < 1 ? NONE : 10 * (at % wide) + at / wide;
        }

        int besideOf(int at, int way) {
            return beside[WAYS * at + way];
        }

        static int facing(int way) {
            return (way + 2) % WAYS;
        }
    }

    /** Reads a city's text token by token; after the first fault nothing more is read. */
    private static final class Reader {
        private static final int ENDED = 0, LETTERS = 1, NUMBER = 2, CLOSING = 3, WRONG = 4;
        private static final int NO_FAULT = -1, NO_NAME = 0;

        private char[] bytes = new char[0];
        private int length;
        private int place;
        private int start;
        private int token;
        private int value;
        private int fault;

        /** How many items, or -10 less the fault's place. */
        int readText(char[] from, int many, City into) {
            bytes = from;
            length = Math.min(many, from.length);
            place = 0;
            fault = NO_FAULT;
            into.wipe();
            int items = 0;
            for (int turn = 0; turn <= MOST_TEXT; turn++) {
                nextToken();
                if (token == ENDED) {
                    break;
                }
                readItem(into, items == 0);
                if (fault != NO_FAULT) {
                    return FAULT_BASE - fault;
                }
                items++;
            }
            return items;
        }

        private void readItem(City into, boolean isFirst) {
            if (token != LETTERS || isFirst != (value == 'g')) {
                fail();
                return;
            }
            switch (value) {
                case 'g':
                    readGround(into);
                    break;
                case 'k':
                    readKerb(into);
                    break;
                case 'o':
                    readGrating(into);
                    break;
                case 'c':
                    readKind(into);
                    break;
                default:
                    fail();
                    break;
            }
            readClosing();
        }

        private void readGround(City into) {
            int wide = readNumber(1, MOST_WIDE);
            int high = readNumber(1, MOST_HIGH);
            if (fault != NO_FAULT) {
                return;
            }
            into.stretch(wide, high);
            for (int at = 0; at < into.cells; at++) {
                into.height[at] = readFigure();
            }
        }

        private void readKerb(City into) {
            int x = readNumber(0, into.wide - 1);
            int y = readNumber(0, into.high - 1);
            int way = readNumber(0, WAYS - 1);
            if (fault == NO_FAULT) {
                into.addKerb(into.cellAt(x, y), way);
            }
        }

        private void readGrating(City into) {
            if (into.gratings >= MOST_GRATINGS) {
                fail();
                return;
            }
            int x = readNumber(0, into.wide - 1);
            int y = readNumber(0, into.high - 1);
            if (fault != NO_FAULT) {
                return;
            }
            int at = into.cellAt(x, y);
            if (into.grating[at] > 0) {
                fail();
                return;
            }
            int size = readNumber(1, MOST_SIZE);
            if (fault == NO_FAULT) {
                into.grating[at] = size;
                into.gratings++;
            }
        }

        private void readKind(City into) {
            if (into.kinds >= MOST_KINDS) {
                fail();
                return;
            }
            int size = readNumber(1, MOST_SIZE);
            int worth = readNumber(1, MOST_WORTH);
            int forged = readNumber(0, 1);
            if (fault == NO_FAULT) {
                into.addKind(size, worth, forged);
            }
        }

        private void readClosing() {
            if (fault != NO_FAULT) {
                return;
            }
            nextToken();
            if (token != CLOSING) {
                fail();
            }
        }

        /** What is read past a fault is never used: then the answer is 0. */
        private int readNumber(int least, int most) {
            if (fault != NO_FAULT) {
                return 0;
            }
            nextToken();
            if (token != NUMBER || value < least || value > most) {
                fail();
                return 0;
            }
            return value;
        }

        /** A row's figures are no NUMBERS: each stands for itself. */
        private int readFigure() {
            if (fault != NO_FAULT) {
                return 0;
            }
            skipBlanks();
            start = place;
            if (signAt(place) != NUMBER) {
                fail();
                return 0;
            }
            place++;
            return bytes[start] - '0';
        }

        private void fail() {
            if (fault == NO_FAULT) {
                fault = start;
            }
        }

        private void nextToken() {
            skipBlanks();
            start = place;
            value = 0;
            token = signAt(place);
            if (token == ENDED) {
                return;
            }
            place++;
            boolean goesOn = token == LETTERS || token == NUMBER;
            for (; goesOn && place < length; place++) {
                if (signAt(place) != token) {
                    break;
                }
            }
            weigh(place - start);
        }

        private void skipBlanks() {
            for (; place < length; place++) {
                if (bytes[place] != ' ') {
                    return;
                }
            }
        }

        /** What kind of token a byte begins. */
        private int signAt(int where) {
            if (where >= length) {
                return ENDED;
            }
            char sign = bytes[where];
            if (sign >= 'a' && sign <= 'z') {
                return LETTERS;
            }
            if (sign >= '0' && sign <= '9') {
                return NUMBER;
            }
            return sign == ';' ? CLOSING : WRONG;
        }

        /** An item's name is one letter (more of them name none), a number has two figures at most. */
        private void weigh(int many) {
            if (token == LETTERS) {
                value = many == 1 ? bytes[start] : NO_NAME;
            } else if (token == NUMBER && many == 1) {
                value = bytes[start] - '0';
            } else if (token == NUMBER) {
                value = 10 * (bytes[start] - '0') + bytes[start + 1] - '0';
                token = many > 2 || bytes[start] == '0' ? WRONG : NUMBER;
            }
        }
    }

    /** What is NOW: all that an image keeps, and the deeds that may be undone. */
    private static final class Ground {
        private static final int LAY = 0, FALL = 1, PLANK = 2, COBBLE = 3, SWEEP = 4;

        int planks;
        int deeds;
        final int[] height = new int[MOST_CELLS];
        final int[] plank = new int[MOST_CELLS];
        final int[] lie = new int[MOST_CELLS];
        final int[] lieWorth = new int[MOST_CELLS];
        final int[] in = new int[MOST_CELLS];
        final int[] inWorth = new int[MOST_CELLS];
        private final int[] deed = new int[MOST_DEEDS];
        private final int[] deedAt = new int[MOST_DEEDS];
        // a way, by how much a cobble moved, or how many coins
        private final int[] deedMuch = new int[MOST_DEEDS];
        private final int[] deedWorth = new int[MOST_DEEDS];

        void layOut(City city) {
            planks = 0;
            deeds = 0;
            copyRow(city.height, height);
            Arrays.fill(plank, 0);
            Arrays.fill(lie, 0);
            Arrays.fill(lieWorth, 0);
            Arrays.fill(in, 0);
            Arrays.fill(inWorth, 0);
        }

        void copyOf(Ground other) {
            planks = other.planks;
            deeds = other.deeds;
            copyRow(other.height, height);
            copyRow(other.plank, plank);
            copyRow(other.lie, lie);
            copyRow(other.lieWorth, lieWorth);
            copyRow(other.in, in);
            copyRow(other.inWorth, inWorth);
            copyRow(other.deed, deed);
            copyRow(other.deedAt, deedAt);
            copyRow(other.deedMuch, deedMuch);
            copyRow(other.deedWorth, deedWorth);
        }

        void letCome(int at, boolean fell, int worth) {
            addCoins(fell ? FALL : LAY, at, 1, worth);
            note(fell ? FALL : LAY, at, 1, worth);
        }

        int changePlank(City city, int at, int way) {
            turnPlank(city, at, way);
            note(PLANK, at, way, 0);
            return planks;
        }

        int moveCobble(int at, int by) {
            height[at] += by;
            note(COBBLE, at, by, 0);
            return height[at];
        }

        int sweepAway(int at) {
            int worth = lieWorth[at];
            note(SWEEP, at, lie[at], worth);
            addCoins(LAY, at, -lie[at], -worth);
            return worth;
        }

        int takeBack(City city) {
            if (deeds < 1) {
                return STATE;
            }
            deeds--;
            int at = deedAt[deeds];
            int much = deedMuch[deeds];
            int worth = deedWorth[deeds];
            switch (deed[deeds]) {
                case PLANK:
                    turnPlank(city, at, much);
                    break;
                case COBBLE:
                    height[at] -= much;
                    break;
                case SWEEP:
                    addCoins(LAY, at, much, worth);
                    break;
                default:
                    addCoins(deed[deeds], at, -much, -worth);
                    break;
            }
            return deeds;
        }

        /** Sets a plank where none is, takes it where one is: either undoes the other. */
        void turnPlank(City city, int at, int way) {
            int next = city.besideOf(at, way);
            if (next == NOWHERE) {
                return;
            }
            plank[at] ^= 1 << way;
            plank[next] ^= 1 << City.facing(way);
            planks += (plank[at] >> way & 1) != 0 ? 1 : -1;
        }

        private void addCoins(int where, int at, int many, int worth) {
            if (where == FALL) {
                in[at] += many;
                inWorth[at] += worth;
            } else {
                lie[at] += many;
                lieWorth[at] += worth;
            }
        }

        private void note(int what, int at, int much, int worth) {
            if (deeds >= MOST_DEEDS) {
                loseOldest(deed);
                loseOldest(deedAt);
                loseOldest(deedMuch);
                loseOldest(deedWorth);
                deeds = MOST_DEEDS - 1;
            }
            deed[deeds] = what;
            deedAt[deeds] = at;
            deedMuch[deeds] = much;
            deedWorth[deeds] = worth;
            deeds++;
        }

        private static void loseOldest(int[] row) {
            System.arraycopy(row, 1, row, 0, row.length - 1);
        }

        private static void copyRow(int[] from, int[] to) {
            System.arraycopy(from, 0, to, 0, Math.min(from.length, to.length));
        }
    }

    /** One coin's roll: where it came to, and by which cells and sides. */
    private static final class Roll {
        int at;
        boolean fell;
        int steps;
        int past;
        // each step is lower, so there are no more of them than heights
        final int[] crossed = new int[TOP + 1];

        void goAs(City city, Ground ground, int k, int from) {
            go(city, ground, city.size[k], city.forged[k] == 1, from);
        }

        void go(City city, Ground ground, int size, boolean forged, int from) {
            at = from;
            fell = false;
            steps = 0;
            past = 1 << from;
            int came = NO_WAY;
            for (int turn = 0; turn <= TOP; turn++) {
                if (city.grating[at] >= size) {
                    fell = true;
                    return;
                }
                int way = wayDown(city, ground, forged, came);
                if (way == NO_WAY) {
                    return;
                }
                crossed[steps] = sideOf(city, at, way);
                steps++;
                at = city.besideOf(at, way);
                past |= 1 << at;
                came = way;
            }
        }

        private int wayDown(City city, Ground ground, boolean forged, int came) {
            int shut = city.kerbs[at] | ground.plank[at];
            int lowest = ground.height[at];
            int best = NO_WAY;
            for (int turn = 0; turn < WAYS; turn++) {
                int way = forged ? WAYS - 1 - turn : turn;
                int next = city.beside[WAYS * at + way];
                if ((shut >> way & 1) == 0 && next != NOWHERE) {
                    int height = ground.height[next];
                    boolean straightOn = height == lowest && best != NO_WAY && way == came;
                    if (height < lowest || straightOn) {
                        lowest = height;
                        best = way;
                    }
                }
            }
            return best;
        }

        /** Sides are numbered as bits rise, east ahead of south; north and west are a neighbour's. */
        private static int sideOf(City city, int at, int way) {
            switch (way) {
                case 0:
                    return 2 * (at - city.wide) + 1;
                case 1:
                    return 2 * at;
                case 2:
                    return 2 * at + 1;
                default:
                    return 2 * (at - 1);
            }
        }
    }

    /**
     * The fewest planks for a way to a door. A plank on a side that a coin does not cross leaves
     * its roll as it is, so only sides that are crossed have to be tried.
     */
    private static final class PlankSearch {
        int fewest;
        int first;
        int second;
        private final Roll plain = new Roll();
        private final Roll withOne = new Roll();
        private final Roll withTwo = new Roll();

        void seek(City city, Ground ground, int k, int from, int to) {
            fewest = NONE;
            first = NO_SIDE;
            second = NO_SIDE;
            plain.goAs(city, ground, k, from);
            if (plain.at == to) {
                fewest = 0;
                return;
            }
            for (int one = 0; one < plain.steps; one++) {
                int side = plain.crossed[one];
                turnSide(city, ground, side);
                withOne.goAs(city, ground, k, from);
                if (withOne.at == to) {
                    offerOne(side);
                } else if (fewest != 1) {
                    seekSecond(city, ground, k, from, to, side);
                }
                turnSide(city, ground, side);
            }
        }

        private void seekSecond(City city, Ground ground, int k, int from, int to, int side) {
            for (int two = 0; two < withOne.steps; two++) {
                int other = withOne.crossed[two];
                turnSide(city, ground, other);
                withTwo.goAs(city, ground, k, from);
                if (withTwo.at == to) {
                    offerTwo(Math.min(side, other), Math.max(side, other));
                }
                turnSide(city, ground, other);
            }
        }

        private void offerOne(int side) {
            if (fewest != 1 || side < first) {
                fewest = 1;
                first = side;
                second = NO_SIDE;
            }
        }

        private void offerTwo(int low, int high) {
            if (fewest == NONE || low < first || low == first && high < second) {
                fewest = 2;
                first = low;
                second = high;
            }
        }

        private static void turnSide(City city, Ground ground, int side) {
            ground.turnPlank(city, side / 2, side % 2 == 0 ? 1 : 2);
        }
    }

    private static class CellKind {
        int ask(SlopeCoins coins, int at) {
            coins.traced += 1;
            return coins.ground.height[at];
        }
    }

    private static class StreetKind extends CellKind {
        int ask(SlopeCoins coins, int at) {
            coins.traced += 10;
            return super.ask(coins, at) + Integer.bitCount(coins.shutWays(at));
        }
    }

    private static class SquareKind extends CellKind {
        int ask(SlopeCoins coins, int at) {
            coins.traced += 100;
            return super.ask(coins, at) - coins.ground.lie[at];
        }
    }

    private static final class LaneKind extends StreetKind {
        int ask(SlopeCoins coins, int at) {
            coins.traced += 1000;
            return 2 * super.ask(coins, at);
        }
    }

    private static final class BendKind extends SquareKind {
        int ask(SlopeCoins coins, int at) {
            coins.traced += 10000;
            return super.ask(coins, at) + coins.ground.lieWorth[at];
        }
    }

    private static final class LodgeKind extends CellKind {
        int ask(SlopeCoins coins, int at) {
            coins.traced += 100000;
            return super.ask(coins, at) + coins.city.grating[at];
        }
    }
}
