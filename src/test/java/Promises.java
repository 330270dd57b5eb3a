/** Every promise of the document by number: ordinary inputs, its edges, and wrong inputs. */
public final class Promises {
    private static final int BAD = -1, STATE = -2, FULL = -3, NONE = -9, NO = -1000000;
    private static final int LEAST = Integer.MIN_VALUE, MOST = Integer.MAX_VALUE;
    private static final int[] WRONG_NUMBERS = {LEAST, -1000, -1, 99, 1000, MOST};

    // 3 2 1
    // 2 1 0
    private static final String STAIRS = "g3 2 321 210;c1 5 0;c3 7 1;";

    private static int wrong = 0;
    private static int promise = 0;

    private static void due(String call, long got, long want) {
        if (got != want) {
            wrong++;
            System.out.println("promise " + promise + ": " + call + " answered " + got + ", due is " + want);
        }
    }

    private static void write(SlopeCoins coins, String text) {
        for (int at = 0; at < text.length(); at++) {
            coins.type(text.charAt(at));
        }
    }

    private static SlopeCoins cityOf(String text) {
        SlopeCoins coins = new SlopeCoins();
        write(coins, text);
        int items = coins.city();
        if (items < 0) {
            wrong++;
            System.out.println("promise " + promise + ": a test's city is refused: " + text + " " + items);
        }
        return coins;
    }

    private static void fault(String text, int place) {
        SlopeCoins coins = cityOf(STAIRS);
        coins.lets(0, 0, 0);
        write(coins, text);
        due("city() of '" + text + "'", coins.city(), -10 - place);
        due("count(6) after a fault", coins.count(6), text.length());
        due("count(0) after a fault", coins.count(0), 3);
        due("count(3) after a fault", coins.count(3), 2);
        due("now(1) after a fault", coins.now(1), 1);
        due("count(5) after a fault", coins.count(5), 1);
    }

    private static void items(String text, int many) {
        SlopeCoins coins = new SlopeCoins();
        write(coins, text);
        due("city() of '" + text + "'", coins.city(), many);
        due("count(6) after '" + text + "'", coins.count(6), 0);
    }

    public static void main(String[] args) {
        newObject();
        type();
        clear();
        city();
        cityFaults();
        cityAnew();
        cell();
        kind();
        lets();
        sets();
        takes();
        cobble();
        sweep();
        undo();
        now();
        end();
        doors();
        planks();
        paved();
        rain();
        feet();
        apart();
        rolls();
        saw();
        forget();
        moved();
        mark();
        keep();
        back();
        count();
        trace();
        System.out.println(wrong == 0 ? "all promises hold" : wrong + " answers are not as due");
        if (wrong != 0) {
            System.exit(1);
        }
    }

    private static void newObject() {
        promise = 1;
        SlopeCoins coins = new SlopeCoins();
        for (int what = 0; what <= 6; what++) {
            due("count(" + what + ")", coins.count(what), 0);
        }
        for (int what = 0; what <= 5; what++) {
            due("now(" + what + ")", coins.now(what), 0);
        }
        due("now(6)", coins.now(6), 1);
        due("cell(0, 0, 0)", coins.cell(0, 0, 0), BAD);
        due("kind(0, 0)", coins.kind(0, 0), BAD);
        due("lets(0, 0, 0)", coins.lets(0, 0, 0), BAD);
        due("sets(0, 0, 0)", coins.sets(0, 0, 0), BAD);
        due("takes(0, 0, 0)", coins.takes(0, 0, 0), BAD);
        due("cobble(0, 0, 1)", coins.cobble(0, 0, 1), BAD);
        due("sweep(0, 0)", coins.sweep(0, 0), BAD);
        due("undo()", coins.undo(), STATE);
        due("end(0, 0, 0, 0)", coins.end(0, 0, 0, 0), BAD);
        due("doors(0, 0, 0)", coins.doors(0, 0, 0), BAD);
        due("planks(0, 0, 0, 0)", coins.planks(0, 0, 0, 0), BAD);
        due("paved(0, 0, 0, 0)", coins.paved(0, 0, 0, 0), BAD);
        due("rain(0)", coins.rain(0), NONE);
        due("rain(1)", coins.rain(1), 0);
        due("feet(0, 0, 0, 0)", coins.feet(0, 0, 0, 0), BAD);
        due("apart(0, 1)", coins.apart(0, 1), BAD);
        due("rolls()", coins.rolls(), 0);
        due("saw(0, 0, 0)", coins.saw(0, 0, 0), BAD);
        due("forget()", coins.forget(), 0);
        due("moved(0)", coins.moved(0), 0);
        due("moved(1)", coins.moved(1), NONE);
        due("mark(0, 0, 0)", coins.mark(0, 0, 0), NO);
        due("back(0)", coins.back(0), STATE);
        due("keep(0)", coins.keep(0), 0);
        due("back(0)", coins.back(0), 0);
        due("trace()", coins.trace(), 0);
    }

    private static void type() {
        promise = 2;
        SlopeCoins coins = new SlopeCoins();
        due("type(-1)", coins.type(-1), BAD);
        due("type(256)", coins.type(256), BAD);
        due("type(LEAST)", coins.type(LEAST), BAD);
        due("type(MOST)", coins.type(MOST), BAD);
        due("count(6)", coins.count(6), 0);
        due("type(0)", coins.type(0), 1);
        due("type(255)", coins.type(255), 2);
        for (int many = 3; many <= 200; many++) {
            due("type(32)", coins.type(32), many);
        }
        due("type(32), the 201st", coins.type(32), FULL);
        due("type(256) when full", coins.type(256), BAD);
        due("count(6)", coins.count(6), 200);
    }

    private static void clear() {
        promise = 3;
        SlopeCoins coins = new SlopeCoins();
        due("clear()", coins.clear(), 0);
        write(coins, "g1 1 z");
        due("clear()", coins.clear(), 6);
        due("clear()", coins.clear(), 0);
        due("type(103)", coins.type('g'), 1);
        coins.clear();
        write(coins, "g1 1 4;");
        due("city()", coins.city(), 1);
        due("cell(0, 0, 0)", coins.cell(0, 0, 0), 4);
        due("clear()", coins.clear(), 0);
    }

    private static void city() {
        promise = 4;
        items("", 0);
        items("   ", 0);
        items("g1 1 0;", 1);
        items("  g  1  1  0  ;  ", 1);
        items("g 6 5 012345678901234567890123456789;", 1);
        items("g2 2 1 2  3 4;k0 0 1 ;k0 0 1;k1 0 3;k0 0 0;", 5);
        items("g2 2 1234;o0 0 1;o1 0 9;o0 1 5;o1 1 5;", 5);
        items("g1 1 1;c1 1 0;c9 99 1;c5 50 0;c5 50 0;c5 50 0;", 6);
        items("g1 1 1;c1 1 0;o0 0 1;k0 0 3;", 4);
        SlopeCoins coins = cityOf("g3 2 123 456;");
        due("cell(2, 0, 0)", coins.cell(2, 0, 0), 3);
        due("cell(0, 1, 0)", coins.cell(0, 1, 0), 4);
        due("count(0)", coins.count(0), 3);
        due("count(1)", coins.count(1), 2);
    }

    private static void cityFaults() {
        promise = 4;
        fault("g", 1);
        fault("g   ", 4);
        fault("k0 0 0;", 0);
        fault("  c1 1 0;", 2);
        fault("x1 1 1;", 0);
        fault("5", 0);
        fault(";", 0);
        fault("G1 1 1;", 0);
        fault("\t", 0);
        fault("\u00ff", 0);
        fault("gg1 1 1;", 0);
        fault("gk1 1 1;", 0);
        fault("g;", 1);
        fault("gx", 0);
        fault("ga", 0);
        fault("gz", 0);
        fault("g x", 2);
        fault("g0 1 1;", 1);
        fault("g7 1 1;", 1);
        fault("g1 0 1;", 3);
        fault("g1 6 1;", 3);
        fault("g01 1 1;", 1);
        fault("g1 001 1;", 3);
        fault("g100 1 1;", 1);
        fault("g1 99999999999999999999 1;", 3);
        fault("g1 11;", 3);
        fault("g1 1;", 4);
        fault("g1 1", 4);
        fault("g2 1 1;", 6);
        fault("g2 1 1", 6);
        fault("g2 1 1 x", 7);
        fault("g2 1 1-", 6);
        fault("g2 1 12", 7);
        fault("g2 1 12  ", 9);
        fault("g2 1 123;", 7);
        fault("g2 1 12 3;", 8);
        fault("g2 1 12 x", 8);
        fault("g1 1 1;;", 7);
        fault("g1 1 1;g1 1 1;", 7);
        fault("g1 1 1; 7", 8);
        fault("g1 1 1;*", 7);
        fault("g1 1 1;z", 7);
        fault("g1 1 1;kk0 0 0;", 7);
        fault("g2 3 123456;k2 0 0;", 13);
        fault("g2 3 123456;k1 3 0;", 15);
        fault("g2 3 123456;k1 2 4;", 17);
        fault("g2 3 123456;k1 2 3", 18);
        fault("g2 3 123456;k1 2 3 4;", 19);
        fault("g2 3 123456;k1 2;", 16);
        fault("g2 3 123456;o2 0 1;", 13);
        fault("g2 3 123456;o1 3 1;", 15);
        fault("g2 3 123456;o1 2 0;", 17);
        fault("g2 3 123456;o1 2 10;", 17);
        fault("g2 3 123456;o1 2 1;o1 2 2;", 22);
        fault("g2 3 123456;o1 2 1;o 1  02 2;", 24);
        fault("g2 3 123456;o0 0 1;o0 1 1;o0 2 1;o1 0 1;o1 1 1;", 40);
        fault("g2 3 123456;o0 0 1;o0 1 1;o0 2 1;o1 0 1;  o", 42);
        fault("g1 1 1;c0 1 0;", 8);
        fault("g1 1 1;c10 1 0;", 8);
        fault("g1 1 1;c9 0 0;", 10);
        fault("g1 1 1;c9 100 0;", 10);
        fault("g1 1 1;c9 99 2;", 13);
        fault("g1 1 1;c9 99 00;", 13);
        fault("g1 1 1;c9 99 1", 14);
        fault("g1 1 1;c1 1 0;c1 1 0;c1 1 0;c1 1 0;c1 1 0;c1 1 0;", 42);
        fault("g1 1 1;c1 1 0;c1 1 0;c1 1 0;c1 1 0;c1 1 0;cc", 42);
    }

    private static void cityAnew() {
        promise = 4;
        SlopeCoins coins = cityOf("g3 2 321 210;k0 0 1;o2 1 9;c1 5 0;c3 7 1;");
        coins.lets(0, 0, 0);
        coins.sets(1, 0, 1);
        coins.cobble(0, 0, 1);
        coins.saw(0, 0, 0);
        coins.keep(0);
        coins.keep(1);
        coins.mark(0, 0, 0);
        write(coins, "g2 1 45;c1 5 0;");
        due("city() anew", coins.city(), 2);
        due("count(0)", coins.count(0), 2);
        due("count(1)", coins.count(1), 1);
        due("count(2)", coins.count(2), 0);
        due("count(3)", coins.count(3), 1);
        due("count(4)", coins.count(4), 0);
        due("count(5)", coins.count(5), 0);
        due("cell(0, 0, 0)", coins.cell(0, 0, 0), 4);
        due("cell(0, 0, 6)", coins.cell(0, 0, 6), 13);
        for (int what = 0; what <= 5; what++) {
            due("now(" + what + ")", coins.now(what), 0);
        }
        due("undo()", coins.undo(), STATE);
        due("back(0)", coins.back(0), STATE);
        due("back(1)", coins.back(1), STATE);
        due("trace()", coins.trace(), 1);
        coins.lets(0, 0, 0);
        due("city() of an empty text", coins.city(), 0);
        due("count(0)", coins.count(0), 0);
        due("count(3)", coins.count(3), 0);
        due("now(0)", coins.now(0), 0);
        due("cell(0, 0, 0)", coins.cell(0, 0, 0), BAD);
    }

    private static void cell() {
        promise = 5;
        SlopeCoins coins = cityOf("g3 2 321 210;o2 1 4;k0 0 1;c5 20 0;c4 3 0;");
        coins.lets(0, 2, 0);
        coins.lets(0, 2, 1);
        coins.lets(1, 2, 1);
        coins.lets(1, 2, 1);
        coins.lets(1, 2, 0);
        int[] wanted = {0, 4, 2, 40, 3, 9, 6};
        for (int what = 0; what <= 6; what++) {
            due("cell(2, 1, " + what + ")", coins.cell(2, 1, what), wanted[what]);
        }
        due("cell(0, 0, 6)", coins.cell(0, 0, 6), 11);
        due("cell(1, 0, 6), the kerb told from the other side", coins.cell(1, 0, 6), 9);
        coins.sets(1, 1, 0);
        due("cell(1, 1, 6)", coins.cell(1, 1, 6), 5);
        due("cell(1, 0, 6)", coins.cell(1, 0, 6), 13);
        due("cell(0, 0, 1)", coins.cell(0, 0, 1), 0);
        due("cell(0, 0, -1)", coins.cell(0, 0, -1), BAD);
        due("cell(0, 0, 7)", coins.cell(0, 0, 7), BAD);
        due("cell(3, 0, 0)", coins.cell(3, 0, 0), BAD);
        due("cell(0, 2, 0)", coins.cell(0, 2, 0), BAD);
        for (int bad : WRONG_NUMBERS) {
            due("cell(" + bad + ", 0, 0)", coins.cell(bad, 0, 0), BAD);
            due("cell(0, " + bad + ", 0)", coins.cell(0, bad, 0), BAD);
            due("cell(0, 0, " + bad + ")", coins.cell(0, 0, bad), BAD);
        }
    }

    private static void kind() {
        promise = 6;
        SlopeCoins coins = cityOf("g1 1 0;c9 99 1;c1 2 0;");
        int[][] wanted = {{9, 99, 1}, {1, 2, 0}};
        for (int k = 0; k < 2; k++) {
            for (int what = 0; what < 3; what++) {
                due("kind(" + k + ", " + what + ")", coins.kind(k, what), wanted[k][what]);
            }
        }
        due("kind(2, 0)", coins.kind(2, 0), BAD);
        due("kind(0, 3)", coins.kind(0, 3), BAD);
        for (int bad : WRONG_NUMBERS) {
            due("kind(" + bad + ", 0)", coins.kind(bad, 0), BAD);
            due("kind(0, " + bad + ")", coins.kind(0, bad), BAD);
        }
    }

    private static void lets() {
        promise = 7;
        SlopeCoins coins = cityOf("g3 2 321 210;o1 0 2;c1 5 0;c3 7 0;");
        due("lets(0, 0, 0), it falls in on its way", coins.lets(0, 0, 0), 110);
        due("lets(0, 1, 0), it falls in at once", coins.lets(0, 1, 0), 110);
        due("lets(1, 0, 0), it is too big", coins.lets(1, 0, 0), 21);
        due("cell(1, 0, 4)", coins.cell(1, 0, 4), 2);
        due("cell(1, 0, 5)", coins.cell(1, 0, 5), 10);
        due("cell(2, 1, 2)", coins.cell(2, 1, 2), 1);
        due("cell(2, 1, 3)", coins.cell(2, 1, 3), 7);
        due("lets(2, 0, 0)", coins.lets(2, 0, 0), BAD);
        due("lets(0, 3, 0)", coins.lets(0, 3, 0), BAD);
        due("lets(0, 0, 2)", coins.lets(0, 0, 2), BAD);
        for (int bad : WRONG_NUMBERS) {
            due("lets(" + bad + ", 0, 0)", coins.lets(bad, 0, 0), BAD);
            due("lets(0, " + bad + ", 0)", coins.lets(0, bad, 0), BAD);
            due("lets(0, 0, " + bad + ")", coins.lets(0, 0, bad), BAD);
        }
        due("now(0)", coins.now(0), 3);
        due("count(5)", coins.count(5), 3);
        letsOfAll();
    }

    /** So many calls are beyond an object's 512, but the rule is the document's. */
    private static void letsOfAll() {
        SlopeCoins coins = cityOf("g2 1 10;o1 0 1;c1 99 0;c2 99 0;");
        for (int many = 0; many < 999; many++) {
            due("lets(" + many % 2 + ", 0, 0)", coins.lets(many % 2, 0, 0), many % 2 == 0 ? 110 : 10);
        }
        due("lets(0, 0, 0), the thousandth", coins.lets(0, 0, 0), STATE);
        due("lets(2, 0, 0), the thousandth", coins.lets(2, 0, 0), BAD);
        due("now(0)", coins.now(0), 999);
        coins.sweep(1, 0);
        due("lets(1, 0, 0)", coins.lets(1, 0, 0), 10);
    }

    private static void sets() {
        promise = 8;
        SlopeCoins coins = cityOf("g6 2 000000 000000;k0 0 1;");
        due("sets(1, 0, 3), a kerb", coins.sets(1, 0, 3), STATE);
        due("sets(0, 0, 1), a kerb", coins.sets(0, 0, 1), STATE);
        due("sets(0, 0, 0), the edge", coins.sets(0, 0, 0), STATE);
        due("sets(5, 1, 1), the edge", coins.sets(5, 1, 1), STATE);
        due("sets(0, 1, 2), the edge", coins.sets(0, 1, 2), STATE);
        due("sets(0, 1, 3), the edge", coins.sets(0, 1, 3), STATE);
        due("sets(0, 0, 2)", coins.sets(0, 0, 2), 1);
        due("sets(0, 1, 0), a plank", coins.sets(0, 1, 0), STATE);
        due("sets(0, 0, 2), a plank", coins.sets(0, 0, 2), STATE);
        due("sets(2, 0, 3)", coins.sets(2, 0, 3), 2);
        due("cell(1, 0, 6)", coins.cell(1, 0, 6), 11);
        due("sets(2, 0, 1)", coins.sets(2, 0, 1), 3);
        due("sets(4, 0, 3)", coins.sets(4, 0, 3), 4);
        due("sets(4, 0, 1)", coins.sets(4, 0, 1), 5);
        for (int x = 1; x <= 3; x++) {
            due("sets(" + x + ", 1, 0)", coins.sets(x, 1, 0), 5 + x);
        }
        due("sets(4, 1, 0), the ninth", coins.sets(4, 1, 0), FULL);
        due("sets(3, 1, 0), a plank, when full", coins.sets(3, 1, 0), STATE);
        due("sets(0, 0, 0), the edge, when full", coins.sets(0, 0, 0), STATE);
        due("now(5)", coins.now(5), 8);
        due("count(5)", coins.count(5), 8);
        due("sets(6, 0, 0)", coins.sets(6, 0, 0), BAD);
        due("sets(0, 2, 0)", coins.sets(0, 2, 0), BAD);
        due("sets(0, 0, 4)", coins.sets(0, 0, 4), BAD);
        for (int bad : WRONG_NUMBERS) {
            due("sets(" + bad + ", 0, 0)", coins.sets(bad, 0, 0), BAD);
            due("sets(0, " + bad + ", 0)", coins.sets(0, bad, 0), BAD);
            due("sets(0, 0, " + bad + ")", coins.sets(0, 0, bad), BAD);
        }
    }

    private static void takes() {
        promise = 9;
        SlopeCoins coins = cityOf("g3 2 321 210;k0 0 1;c1 1 0;");
        coins.sets(1, 0, 2);
        coins.sets(1, 0, 1);
        due("end(0, 1, 0, 0)", coins.end(0, 1, 0, 0), 10);
        due("takes(0, 0, 1), a kerb", coins.takes(0, 0, 1), STATE);
        due("takes(0, 0, 0), the edge", coins.takes(0, 0, 0), STATE);
        due("takes(0, 0, 2), none", coins.takes(0, 0, 2), STATE);
        due("takes(1, 1, 0), from the other side", coins.takes(1, 1, 0), 1);
        due("takes(1, 0, 2), gone", coins.takes(1, 0, 2), STATE);
        due("end(0, 1, 0, 2)", coins.end(0, 1, 0, 2), 2 + 16 + 32);
        due("takes(1, 0, 1)", coins.takes(1, 0, 1), 0);
        due("cell(1, 0, 6)", coins.cell(1, 0, 6), 9);
        due("count(5)", coins.count(5), 4);
        due("takes(3, 0, 0)", coins.takes(3, 0, 0), BAD);
        due("takes(0, 2, 0)", coins.takes(0, 2, 0), BAD);
        due("takes(0, 0, 4)", coins.takes(0, 0, 4), BAD);
        for (int bad : WRONG_NUMBERS) {
            due("takes(" + bad + ", 0, 0)", coins.takes(bad, 0, 0), BAD);
            due("takes(0, " + bad + ", 0)", coins.takes(0, bad, 0), BAD);
            due("takes(0, 0, " + bad + ")", coins.takes(0, 0, bad), BAD);
        }
    }

    private static void cobble() {
        promise = 10;
        SlopeCoins coins = cityOf("g2 1 80;c1 6 0;");
        coins.lets(0, 0, 0);
        due("cobble(1, 0, 0)", coins.cobble(1, 0, 0), STATE);
        due("cobble(0, 0, 1)", coins.cobble(0, 0, 1), 9);
        due("cobble(0, 0, 1)", coins.cobble(0, 0, 1), STATE);
        due("cobble(0, 0, 0)", coins.cobble(0, 0, 0), 8);
        for (int height = 1; height <= 9; height++) {
            due("cobble(1, 0, 1)", coins.cobble(1, 0, 1), height);
        }
        due("cell(1, 0, 2), it stays", coins.cell(1, 0, 2), 1);
        due("end(0, 1, 0, 0)", coins.end(0, 1, 0, 0), 0);
        due("cobble(2, 0, 0)", coins.cobble(2, 0, 0), BAD);
        due("cobble(0, 1, 0)", coins.cobble(0, 1, 0), BAD);
        due("cobble(0, 0, 2)", coins.cobble(0, 0, 2), BAD);
        for (int bad : WRONG_NUMBERS) {
            due("cobble(" + bad + ", 0, 0)", coins.cobble(bad, 0, 0), BAD);
            due("cobble(0, " + bad + ", 0)", coins.cobble(0, bad, 0), BAD);
            due("cobble(0, 0, " + bad + ")", coins.cobble(0, 0, bad), BAD);
        }
    }

    private static void sweep() {
        promise = 11;
        SlopeCoins coins = cityOf("g2 1 10;o1 0 1;c1 6 0;c2 50 0;c9 8 0;");
        due("sweep(1, 0), nothing", coins.sweep(1, 0), STATE);
        coins.lets(0, 0, 0);
        due("sweep(1, 0), in alone", coins.sweep(1, 0), STATE);
        coins.lets(1, 0, 0);
        coins.lets(2, 0, 0);
        due("sweep(1, 0)", coins.sweep(1, 0), 58);
        due("cell(1, 0, 2)", coins.cell(1, 0, 2), 0);
        due("cell(1, 0, 3)", coins.cell(1, 0, 3), 0);
        due("cell(1, 0, 4)", coins.cell(1, 0, 4), 1);
        due("sweep(1, 0), swept", coins.sweep(1, 0), STATE);
        due("count(5)", coins.count(5), 4);
        due("sweep(2, 0)", coins.sweep(2, 0), BAD);
        due("sweep(0, 1)", coins.sweep(0, 1), BAD);
        for (int bad : WRONG_NUMBERS) {
            due("sweep(" + bad + ", 0)", coins.sweep(bad, 0), BAD);
            due("sweep(0, " + bad + ")", coins.sweep(0, bad), BAD);
        }
    }

    private static void undo() {
        promise = 12;
        SlopeCoins coins = cityOf("g3 2 321 210;o0 1 2;c1 5 0;c3 7 1;");
        due("undo()", coins.undo(), STATE);
        coins.lets(1, 0, 0);
        coins.lets(0, 0, 1);
        coins.sets(1, 0, 1);
        coins.cobble(2, 0, 0);
        coins.cobble(0, 0, 1);
        coins.takes(2, 0, 3);
        coins.sweep(2, 1);
        coins.sweep(2, 1);
        due("undo() of sweep", coins.undo(), 6);
        due("cell(2, 1, 2)", coins.cell(2, 1, 2), 1);
        due("cell(2, 1, 3)", coins.cell(2, 1, 3), 7);
        due("undo() of takes", coins.undo(), 5);
        due("now(5)", coins.now(5), 1);
        due("cell(1, 0, 6)", coins.cell(1, 0, 6), 3);
        due("cell(2, 0, 6)", coins.cell(2, 0, 6), 11);
        due("undo() of cobble up", coins.undo(), 4);
        due("cell(0, 0, 0)", coins.cell(0, 0, 0), 3);
        due("undo() of cobble down", coins.undo(), 3);
        due("cell(2, 0, 0)", coins.cell(2, 0, 0), 1);
        due("undo() of sets", coins.undo(), 2);
        due("now(5)", coins.now(5), 0);
        due("cell(2, 0, 6)", coins.cell(2, 0, 6), 3);
        due("undo() of lets, in", coins.undo(), 1);
        due("cell(0, 1, 4)", coins.cell(0, 1, 4), 0);
        due("cell(0, 1, 5)", coins.cell(0, 1, 5), 0);
        due("undo() of lets", coins.undo(), 0);
        due("cell(2, 1, 2)", coins.cell(2, 1, 2), 0);
        due("cell(2, 1, 3)", coins.cell(2, 1, 3), 0);
        due("undo()", coins.undo(), STATE);
        undoOfMany();
    }

    private static void undoOfMany() {
        SlopeCoins coins = cityOf("g2 1 03;o1 0 1;k0 0 1;c1 5 0;c2 7 0;");
        for (int lost = 0; lost < 7; lost++) {
            coins.lets(1, 1, 0);
        }
        // ten more, no two alike that stand beside one another
        coins.cobble(0, 0, 1);
        coins.lets(0, 1, 0);
        coins.cobble(1, 0, 0);
        coins.lets(1, 0, 0);
        coins.sweep(0, 0);
        coins.lets(0, 0, 0);
        coins.sweep(1, 0);
        coins.cobble(0, 0, 1);
        coins.lets(1, 1, 0);
        coins.cobble(1, 0, 0);
        due("count(5), ten are known", coins.count(5), 10);
        // for each deed undone: what lies at 0 0, its height, what lies at 1 0, its height, what is in there
        int[][] wanted = {{5, 2, 7, 2, 1}, {5, 2, 0, 2, 1}, {5, 1, 0, 2, 1}, {5, 1, 49, 2, 1}, {0, 1, 49, 2, 1},
            {7, 1, 49, 2, 1}, {0, 1, 49, 2, 1}, {0, 1, 49, 3, 1}, {0, 1, 49, 3, 0}, {0, 0, 49, 3, 0}};
        for (int done = 0; done < 10; done++) {
            due("undo()", coins.undo(), 9 - done);
            due("cell(0, 0, 3), undone " + done, coins.cell(0, 0, 3), wanted[done][0]);
            due("cell(0, 0, 0), undone " + done, coins.cell(0, 0, 0), wanted[done][1]);
            due("cell(1, 0, 3), undone " + done, coins.cell(1, 0, 3), wanted[done][2]);
            due("cell(1, 0, 0), undone " + done, coins.cell(1, 0, 0), wanted[done][3]);
            due("cell(1, 0, 4), undone " + done, coins.cell(1, 0, 4), wanted[done][4]);
        }
        due("undo(), older ones are lost", coins.undo(), STATE);
        due("cell(1, 0, 2), older ones are lost", coins.cell(1, 0, 2), 7);
    }

    private static void now() {
        promise = 13;
        SlopeCoins coins = cityOf("g3 1 210;o2 0 4;c5 20 0;c4 3 0;");
        coins.lets(0, 0, 0);
        coins.lets(1, 0, 0);
        coins.lets(1, 0, 0);
        coins.sets(0, 0, 1);
        coins.lets(0, 0, 0);
        int[] wanted = {4, 2, 40, 2, 6, 1, 1};
        for (int what = 0; what <= 6; what++) {
            due("now(" + what + ")", coins.now(what), wanted[what]);
        }
        coins.saw(0, 0, 0);
        due("now(6)", coins.now(6), 1);
        coins.saw(0, 10, 0);
        due("now(6)", coins.now(6), 0);
        due("now(7)", coins.now(7), BAD);
        for (int bad : WRONG_NUMBERS) {
            due("now(" + bad + ")", coins.now(bad), BAD);
        }
    }

    private static void end() {
        promise = 14;
        SlopeCoins coins = cityOf(STAIRS);
        due("end(0, 0, 0, 0)", coins.end(0, 0, 0, 0), 21);
        due("end(0, 0, 0, 1)", coins.end(0, 0, 0, 1), 3);
        due("end(0, 0, 0, 2), straight on", coins.end(0, 0, 0, 2), 1 + 2 + 4 + 32);
        due("end(1, 0, 0, 2), forged", coins.end(1, 0, 0, 2), 1 + 8 + 16 + 32);
        due("end(0, 2, 1, 1)", coins.end(0, 2, 1, 1), 0);
        due("end(0, 2, 1, 2)", coins.end(0, 2, 1, 2), 32);
        endWays();
        due("end(2, 0, 0, 0)", coins.end(2, 0, 0, 0), BAD);
        due("end(0, 3, 0, 0)", coins.end(0, 3, 0, 0), BAD);
        due("end(0, 0, 2, 0)", coins.end(0, 0, 2, 0), BAD);
        due("end(0, 0, 0, 3)", coins.end(0, 0, 0, 3), BAD);
        for (int bad : WRONG_NUMBERS) {
            due("end(" + bad + ", 0, 0, 0)", coins.end(bad, 0, 0, 0), BAD);
            due("end(0, " + bad + ", 0, 0)", coins.end(0, bad, 0, 0), BAD);
            due("end(0, 0, " + bad + ", 0)", coins.end(0, 0, bad, 0), BAD);
            due("end(0, 0, 0, " + bad + ")", coins.end(0, 0, 0, bad), BAD);
        }
        due("now(0), nothing is changed", coins.now(0), 0);
    }

    private static void endWays() {
        SlopeCoins peak = cityOf("g3 3 111 121 111;c1 1 0;c1 1 1;");
        int[] plain = {10, 21, 12, 1, 11};
        int[] forged = {1, 12, 21, 10, 11};
        for (int shut = 0; shut <= 4; shut++) {
            due("end(0, 1, 1, 0), " + shut + " shut", peak.end(0, 1, 1, 0), plain[shut]);
            if (shut < 4) {
                peak.sets(1, 1, shut);
            }
        }
        for (int way = 0; way < 4; way++) {
            peak.takes(1, 1, way);
        }
        for (int shut = 0; shut <= 4; shut++) {
            due("end(1, 1, 1, 0), " + shut + " shut", peak.end(1, 1, 1, 0), forged[shut]);
            peak.sets(1, 1, 3 - shut);
        }
        SlopeCoins turned = cityOf("g3 2 321 210;k0 0 2;c1 5 1;c1 5 0;");
        due("end(0, 0, 0, 2), forged, straight on", turned.end(0, 0, 0, 2), 1 + 2 + 4 + 32);
        SlopeCoins lower = cityOf("g3 2 543 210;c1 5 0;");
        due("end(0, 0, 0, 2), lower ahead of straight on", lower.end(0, 0, 0, 2), 1 + 8 + 16 + 32);
        SlopeCoins level = cityOf("g3 1 222;c1 5 0;");
        due("end(0, 1, 0, 1), level is not lower", level.end(0, 1, 0, 1), 0);
        SlopeCoins grated = cityOf("g3 1 321;o1 0 4;c4 1 0;c5 1 0;c3 1 0;");
        due("end(0, 0, 0, 0), in", grated.end(0, 0, 0, 0), 110);
        due("end(0, 0, 0, 1), in", grated.end(0, 0, 0, 1), 1);
        due("end(0, 0, 0, 2), in", grated.end(0, 0, 0, 2), 3);
        due("end(1, 0, 0, 0), past it", grated.end(1, 0, 0, 0), 20);
        due("end(2, 1, 0, 0), in at once", grated.end(2, 1, 0, 0), 110);
        SlopeCoins longest = cityOf("g5 2 56789 43210;c1 1 0;");
        due("end(0, 4, 0, 1), one step", longest.end(0, 4, 0, 1), 1);
        longest = cityOf("g5 2 56789 43210;k4 0 2;k3 0 2;k2 0 2;k1 0 2;c1 1 0;");
        due("end(0, 4, 0, 1), nine steps", longest.end(0, 4, 0, 1), 9);
        due("end(0, 4, 0, 2), every cell", longest.end(0, 4, 0, 2), 1023);
        due("end(0, 4, 0, 0)", longest.end(0, 4, 0, 0), 41);
        longest = cityOf("g5 2 56789 43210;k4 0 2;k3 0 2;k2 0 2;k1 0 2;o4 1 1;c1 1 0;");
        due("end(0, 4, 0, 0), in after nine steps", longest.end(0, 4, 0, 0), 141);
    }

    private static void doors() {
        promise = 15;
        SlopeCoins coins = cityOf("g3 2 321 210;o1 0 2;c1 5 0;c3 7 0;");
        due("doors(0, 1, 0), in", coins.doors(0, 1, 0), 1 + 2);
        due("doors(1, 1, 0)", coins.doors(1, 1, 0), 0);
        due("doors(0, 2, 1)", coins.doors(0, 2, 1), 4 + 8 + 16 + 32);
        due("doors(1, 2, 1)", coins.doors(1, 2, 1), 63);
        due("doors(2, 0, 0)", coins.doors(2, 0, 0), BAD);
        due("doors(0, 3, 0)", coins.doors(0, 3, 0), BAD);
        due("doors(0, 0, 2)", coins.doors(0, 0, 2), BAD);
        for (int bad : WRONG_NUMBERS) {
            due("doors(" + bad + ", 0, 0)", coins.doors(bad, 0, 0), BAD);
            due("doors(0, " + bad + ", 0)", coins.doors(0, bad, 0), BAD);
            due("doors(0, 0, " + bad + ")", coins.doors(0, 0, bad), BAD);
        }
        SlopeCoins all = cityOf("g6 5 012345 123456 234567 345678 456789;c1 1 0;");
        due("doors(0, 0, 0), all thirty", all.doors(0, 0, 0), (1 << 30) - 1);
    }

    private static void planks() {
        promise = 16;
        SlopeCoins coins = cityOf("g3 2 321 210;c1 5 0;o2 1 3;");
        planksAre(coins, 0, 21, 0, -5, -5);
        planksAre(coins, 0, 0, 2, 0, 1);
        planksAre(coins, 0, 20, 1, 201, -5);
        planksAre(coins, 0, 10, 2, 100, 101);
        planksAre(coins, 21, 0, NONE, NONE, NONE);
        planksAre(coins, 21, 21, 0, -5, -5);
        planksAre(coins, 20, 20, 1, 201, -5);
        // it goes south by the first, and is held at 0 1 by the side to the east of that
        planksAre(coins, 0, 1, 2, 0, 10);
        coins.sets(0, 0, 1);
        planksAre(coins, 0, 0, 1, 1, -5);
        due("now(5), nothing is changed", coins.now(5), 1);
        due("cell(0, 0, 6), nothing is changed", coins.cell(0, 0, 6), 11);
        due("count(5), nothing is changed", coins.count(5), 1);
        planksRefused(coins);
        SlopeCoins three = cityOf("g3 3 999 929 999;c1 5 0;");
        planksAre(three, 11, 10, NONE, NONE, NONE);
        SlopeCoins peak = cityOf("g3 3 111 121 111;c1 1 0;");
        planksAre(peak, 11, 10, 0, -5, -5);
        planksAre(peak, 11, 21, 1, 101, -5);
        planksAre(peak, 11, 12, 2, 101, 110);
        planksAre(peak, 11, 1, NONE, NONE, NONE);
        SlopeCoins slope = cityOf("g6 5 987554 876533 755332 644310 533100;c1 1 0;");
        // 0 and 121 or 100 and 121 lead to 1 2, 100 and 111 or 200 and 211 to 4 1
        planksAre(slope, 0, 12, 2, 0, 121);
        planksAre(slope, 0, 41, 2, 100, 111);
        slope = cityOf("g6 5 013446 124566 235677 446688 457899;c1 1 0;");
        // 1 and 101 or 1 and 111 lead to 0 1
        planksAre(slope, 12, 1, 2, 1, 101);
        slope = cityOf("g6 5 023355 123456 235677 456688 556789;c1 1 0;");
        // 210 and 330 or 411 and 330 lead to 3 0
        planksAre(slope, 43, 30, 2, 210, 330);
        slope = cityOf("g6 5 012345 123456 234567 345678 456789;c1 1 0;");
        // by bits, not by pairs: 5 2 is ahead of 4 3
        planksAre(slope, 54, 53, 2, 521, 430);
        // west of a cell is told as east of the one beside it
        SlopeCoins row = cityOf("g6 1 012345;c1 1 0;");
        planksAre(row, 50, 50, 1, 400, -5);
        planksAre(row, 50, 20, 1, 100, -5);
        planksAre(row, 50, 0, 0, -5, -5);
        SlopeCoins corner = cityOf("g3 3 999 989 979;c1 1 1;");
        planksAre(corner, 11, 11, 1, 111, -5);
    }

    private static void planksAre(SlopeCoins coins, int from, int to, int many, int first, int second) {
        due("planks(0, " + from + ", " + to + ", 0)", coins.planks(0, from, to, 0), many);
        due("planks(0, " + from + ", " + to + ", 1)", coins.planks(0, from, to, 1), first);
        due("planks(0, " + from + ", " + to + ", 2)", coins.planks(0, from, to, 2), second);
    }

    private static void planksRefused(SlopeCoins coins) {
        due("planks(1, 0, 0, 0)", coins.planks(1, 0, 0, 0), BAD);
        due("planks(0, 30, 0, 0)", coins.planks(0, 30, 0, 0), BAD);
        due("planks(0, 2, 0, 0)", coins.planks(0, 2, 0, 0), BAD);
        due("planks(0, 0, 30, 0)", coins.planks(0, 0, 30, 0), BAD);
        due("planks(0, 0, 2, 0)", coins.planks(0, 0, 2, 0), BAD);
        due("planks(0, 0, 121, 0)", coins.planks(0, 0, 121, 0), BAD);
        due("planks(0, 0, 0, 3)", coins.planks(0, 0, 0, 3), BAD);
        for (int bad : WRONG_NUMBERS) {
            due("planks(" + bad + ", 0, 0, 0)", coins.planks(bad, 0, 0, 0), BAD);
            due("planks(0, " + bad + ", 0, 0)", coins.planks(0, bad, 0, 0), BAD);
            due("planks(0, 0, " + bad + ", 0)", coins.planks(0, 0, bad, 0), BAD);
            due("planks(0, 0, 0, " + bad + ")", coins.planks(0, 0, 0, bad), BAD);
        }
    }

    private static void paved() {
        promise = 17;
        SlopeCoins coins = cityOf("g4 1 3312;c1 5 0;");
        // as it is, the first one is level with the second, and no door of the third
        due("paved(0, 2, 0, 0)", coins.paved(0, 2, 0, 0), 10);
        due("paved(0, 2, 0, 1)", coins.paved(0, 2, 0, 1), 4);
        due("paved(0, 0, 0, 0)", coins.paved(0, 0, 0, 0), 0);
        due("paved(0, 0, 0, 1)", coins.paved(0, 0, 0, 1), 1);
        due("cell(0, 0, 0), nothing is changed", coins.cell(0, 0, 0), 3);
        SlopeCoins row = cityOf("g4 1 3323;c1 5 0;");
        due("paved(0, 0, 0, 0), of two alike the first", row.paved(0, 0, 0, 0), 0);
        due("paved(0, 0, 0, 1)", row.paved(0, 0, 0, 1), 1);
        SlopeCoins low = cityOf("g2 1 01;c1 5 0;");
        due("paved(0, 1, 0, 0), from 1 to 0", low.paved(0, 1, 0, 0), 10);
        due("paved(0, 1, 0, 1), from 1 to 0", low.paved(0, 1, 0, 1), 1);
        SlopeCoins flat = cityOf("g2 2 00 00;c1 5 0;");
        due("paved(0, 0, 0, 0), none can be", flat.paved(0, 0, 0, 0), NONE);
        due("paved(0, 0, 0, 1), none can be", flat.paved(0, 0, 0, 1), NONE);
        SlopeCoins never = cityOf("g2 1 90;c1 5 0;");
        due("paved(0, 0, 0, 0), none comes there", never.paved(0, 0, 0, 0), 0);
        due("paved(0, 0, 0, 1), none comes there", never.paved(0, 0, 0, 1), 0);
        due("paved(1, 0, 0, 0)", coins.paved(1, 0, 0, 0), BAD);
        due("paved(0, 4, 0, 0)", coins.paved(0, 4, 0, 0), BAD);
        due("paved(0, 0, 1, 0)", coins.paved(0, 0, 1, 0), BAD);
        due("paved(0, 0, 0, 2)", coins.paved(0, 0, 0, 2), BAD);
        for (int bad : WRONG_NUMBERS) {
            due("paved(" + bad + ", 0, 0, 0)", coins.paved(bad, 0, 0, 0), BAD);
            due("paved(0, " + bad + ", 0, 0)", coins.paved(0, bad, 0, 0), BAD);
            due("paved(0, 0, " + bad + ", 0)", coins.paved(0, 0, bad, 0), BAD);
            due("paved(0, 0, 0, " + bad + ")", coins.paved(0, 0, 0, bad), BAD);
        }
    }

    private static void rain() {
        promise = 18;
        SlopeCoins coins = cityOf("g5 1 12321;");
        due("rain(0), without kinds", coins.rain(0), 40);
        due("rain(1)", coins.rain(1), 3);
        due("rain(2)", coins.rain(2), BAD);
        SlopeCoins tie = cityOf("g2 2 01 10;");
        due("rain(0), of two alike the first", tie.rain(0), 0);
        due("rain(1)", tie.rain(1), 2);
        SlopeCoins grated = cityOf("g5 1 01234;o2 0 1;");
        due("rain(0), in", grated.rain(0), 20);
        due("rain(1), in", grated.rain(1), 3);
        for (int bad : WRONG_NUMBERS) {
            due("rain(" + bad + ")", coins.rain(bad), BAD);
        }
    }

    private static void feet() {
        promise = 19;
        SlopeCoins coins = cityOf("g3 3 111 121 111;c1 5 0;");
        // from the middle and the north one it comes to the north one: two of five
        feetAre(coins, 11, 10, 2, 5);
        feetAre(coins, 11, 0, 0, 1);
        feetAre(coins, 0, 0, 1, 3);
        feetAre(coins, 10, 10, 1, 2);
        feetAre(coins, 21, 10, 1, 4);
        SlopeCoins down = cityOf("g2 1 10;k0 0 1;c1 5 0;");
        feetAre(down, 0, 10, 1, 2);
        SlopeCoins grated = cityOf("g2 1 10;o1 0 5;c1 5 0;");
        feetAre(grated, 0, 10, 1, 1);
        due("feet(1, 0, 0, 0)", coins.feet(1, 0, 0, 0), BAD);
        due("feet(0, 30, 0, 0)", coins.feet(0, 30, 0, 0), BAD);
        due("feet(0, 3, 0, 0)", coins.feet(0, 3, 0, 0), BAD);
        due("feet(0, 0, 30, 0)", coins.feet(0, 0, 30, 0), BAD);
        due("feet(0, 0, 3, 0)", coins.feet(0, 0, 3, 0), BAD);
        due("feet(0, 0, 0, 2)", coins.feet(0, 0, 0, 2), BAD);
        for (int bad : WRONG_NUMBERS) {
            due("feet(" + bad + ", 0, 0, 0)", coins.feet(bad, 0, 0, 0), BAD);
            due("feet(0, " + bad + ", 0, 0)", coins.feet(0, bad, 0, 0), BAD);
            due("feet(0, 0, " + bad + ", 0)", coins.feet(0, 0, bad, 0), BAD);
            due("feet(0, 0, 0, " + bad + ")", coins.feet(0, 0, 0, bad), BAD);
        }
    }

    private static void feetAre(SlopeCoins coins, int from, int to, int upper, int lower) {
        due("feet(0, " + from + ", " + to + ", 0)", coins.feet(0, from, to, 0), upper);
        due("feet(0, " + from + ", " + to + ", 1)", coins.feet(0, from, to, 1), lower);
    }

    private static void apart() {
        promise = 20;
        SlopeCoins coins = cityOf("g3 1 121;o0 0 4;c4 1 0;c5 1 0;c5 1 1;c4 9 0;");
        due("apart(0, 1), one lies where the other falls in", coins.apart(0, 1), 1);
        due("apart(1, 0)", coins.apart(1, 0), 1);
        due("apart(1, 2), by other cells", coins.apart(1, 2), 2);
        due("apart(0, 2)", coins.apart(0, 2), 3);
        due("apart(0, 3), worth does not matter", coins.apart(0, 3), 0);
        due("apart(0, 0), not unlike", coins.apart(0, 0), BAD);
        due("apart(4, 0)", coins.apart(4, 0), BAD);
        due("apart(0, 4)", coins.apart(0, 4), BAD);
        for (int bad : WRONG_NUMBERS) {
            due("apart(" + bad + ", 0)", coins.apart(bad, 0), BAD);
            due("apart(0, " + bad + ")", coins.apart(0, bad), BAD);
            due("apart(" + bad + ", " + bad + ")", coins.apart(bad, bad), BAD);
        }
    }

    private static void rolls() {
        promise = 21;
        due("rolls(), no kinds", cityOf("g1 1 0;").rolls(), 0);
        due("rolls(), one kind", cityOf("g1 1 0;c1 1 0;").rolls(), 0);
        due("rolls(), two alike", cityOf("g1 1 0;c1 1 0;c1 1 0;").rolls(), NONE);
        due("rolls(), two", cityOf("g3 1 000;o1 0 4;c4 1 0;c5 1 0;").rolls(), 2);
        due("rolls(), the first cell", cityOf("g3 1 000;o0 0 4;c4 1 0;c5 1 0;").rolls(), 1);
        due("rolls(), the first three",
            cityOf("g4 1 0000;o0 0 1;o1 0 2;o2 0 3;c1 1 0;c2 1 0;c3 1 0;c4 1 0;").rolls(), 7);
        due("rolls(), of as few the least bits",
            cityOf("g3 1 000;o1 0 4;o2 0 4;c4 1 0;c5 1 0;").rolls(), 2);
        due("rolls(), three kinds by two cells",
            cityOf("g3 1 000;o1 0 4;o2 0 5;c4 1 0;c5 1 0;c6 1 0;").rolls(), 6);
        due("rolls(), four kinds by three cells",
            cityOf("g4 1 0000;o0 0 1;o2 0 2;o3 0 3;c1 1 0;c2 1 0;c3 1 0;c4 1 0;").rolls(), 13);
        due("rolls(), five kinds need four cells",
            cityOf("g4 1 0000;o0 0 1;o1 0 2;o2 0 3;o3 0 4;c1 1 0;c2 1 0;c3 1 0;c4 1 0;c5 1 0;").rolls(), NONE);
        // 0 or 2 tell one step of sizes, 1 or 3 the other
        due("rolls(), the least bits of two",
            cityOf("g4 1 0000;o0 0 1;o1 0 2;o2 0 1;o3 0 2;c1 1 0;c2 1 0;c3 1 0;").rolls(), 3);
        due("rolls(), the least bits: {2, 4} ahead of {0, 5}",
            cityOf("g3 2 301033;o2 0 3;o2 1 1;o1 1 1;c1 1 0;c3 1 1;c2 1 0;c4 1 0;").rolls(), 20);
        due("rolls(), one that tells nothing is left out",
            cityOf("g4 1 0000;o0 0 3;o1 0 2;o2 0 1;o3 0 1;c1 1 0;c2 1 0;c3 1 0;").rolls(), 6);
    }

    private static void saw() {
        promise = 22;
        SlopeCoins coins = cityOf(STAIRS);
        for (int many = 1; many <= 6; many++) {
            due("saw(1, 0, 21)", coins.saw(1, 0, 21), many);
        }
        due("now(6)", coins.now(6), 1);
        due("saw(0, 0, 0), the seventh", coins.saw(0, 0, 0), FULL);
        due("now(6)", coins.now(6), 1);
        due("saw(2, 0, 0), when full", coins.saw(2, 0, 0), BAD);
        due("saw(0, 30, 0)", coins.saw(0, 30, 0), BAD);
        due("saw(0, 2, 0)", coins.saw(0, 2, 0), BAD);
        due("saw(0, 0, 30)", coins.saw(0, 0, 30), BAD);
        due("saw(0, 0, 2)", coins.saw(0, 0, 2), BAD);
        for (int bad : WRONG_NUMBERS) {
            due("saw(" + bad + ", 0, 0)", coins.saw(bad, 0, 0), BAD);
            due("saw(0, " + bad + ", 0)", coins.saw(0, bad, 0), BAD);
            due("saw(0, 0, " + bad + ")", coins.saw(0, 0, bad), BAD);
        }
        due("count(4)", coins.count(4), 6);
    }

    private static void forget() {
        promise = 23;
        SlopeCoins coins = cityOf(STAIRS);
        due("forget()", coins.forget(), 0);
        coins.saw(0, 0, 0);
        coins.saw(0, 0, 10);
        due("now(6)", coins.now(6), 0);
        due("forget()", coins.forget(), 2);
        due("count(4)", coins.count(4), 0);
        due("now(6)", coins.now(6), 1);
        due("saw(0, 0, 0)", coins.saw(0, 0, 0), 1);
    }

    private static void moved() {
        promise = 24;
        SlopeCoins coins = cityOf("g3 1 091;c1 5 0;");
        due("moved(0), all that could be", coins.moved(0), 4);
        due("moved(1), the first", coins.moved(1), 1);
        // from the 9 it goes to the 0; it came to the 1, as the one was one more (level: east) or the other less
        coins.saw(0, 10, 20);
        due("moved(0)", coins.moved(0), 2);
        due("moved(1), 0 0 one more", coins.moved(1), 1);
        coins.saw(0, 10, 0);
        due("moved(0), not both", coins.moved(0), 0);
        due("moved(1), not both", coins.moved(1), NONE);
        SlopeCoins low = cityOf("g2 1 55;c1 5 0;");
        low.saw(0, 0, 10);
        due("moved(0), 0 one more, 1 one less", low.moved(0), 2);
        due("moved(1)", low.moved(1), 1);
        low.saw(0, 10, 10);
        due("moved(0)", low.moved(0), 2);
        SlopeCoins first = cityOf("g2 1 55;c1 5 0;");
        first.saw(0, 10, 0);
        due("moved(0), 0 one less, 1 one more", first.moved(0), 2);
        due("moved(1), one less ahead", first.moved(1), 0);
        due("cell(0, 0, 0), nothing is changed", first.cell(0, 0, 0), 5);
        SlopeCoins kinds = cityOf("g3 2 999 191;c1 5 0;c1 5 1;");
        kinds.saw(1, 11, 1);
        // forged ones go west from 1 1 but for 0 1 one more, 2 1 one less; four cells are at 9
        due("moved(0), a forged one", kinds.moved(0), 6);
        due("moved(1), a forged one", kinds.moved(1), 0);
        kinds.forget();
        kinds.saw(0, 11, 1);
        // plain ones go east from 1 1 but for 0 1 one less, 2 1 one more
        due("moved(0), a plain one", kinds.moved(0), 2);
        due("moved(1), a plain one", kinds.moved(1), 10);
        SlopeCoins forged = cityOf("g3 1 091;c1 5 1;");
        forged.saw(0, 10, 20);
        due("moved(0), one more is not enough", forged.moved(0), 0);
        due("moved(2)", coins.moved(2), BAD);
        for (int bad : WRONG_NUMBERS) {
            due("moved(" + bad + ")", coins.moved(bad), BAD);
        }
    }

    private static void mark() {
        promise = 25;
        SlopeCoins coins = cityOf("g2 2 43 22;k0 0 1;o0 1 3;c4 9 0;");
        coins.lets(0, 0, 0);
        coins.lets(0, 0, 1);
        coins.sets(0, 1, 1);
        // 0 1: height 2, shut to the south, the west and the east, two coins of 9, size 3
        int[] wanted = {2, 5, 0, 10, 18, 5};
        for (int of = 0; of <= 5; of++) {
            due("mark(" + of + ", 0, 1)", coins.mark(of, 0, 1), wanted[of]);
        }
        due("mark(5, 0, 0), no grating", coins.mark(5, 0, 0), 4);
        due("mark(3, 0, 0)", coins.mark(3, 0, 0), 2 * (4 + 3));
        coins.lets(0, 0, 1);
        due("mark(2, 0, 1), below 0", coins.mark(2, 0, 1), -1);
        due("mark(6, 0, 0)", coins.mark(6, 0, 0), NO);
        due("mark(0, 2, 0)", coins.mark(0, 2, 0), NO);
        due("mark(0, 0, 2)", coins.mark(0, 0, 2), NO);
        for (int bad : WRONG_NUMBERS) {
            due("mark(" + bad + ", 0, 0)", coins.mark(bad, 0, 0), NO);
            due("mark(0, " + bad + ", 0)", coins.mark(0, bad, 0), NO);
            due("mark(0, 0, " + bad + ")", coins.mark(0, 0, bad), NO);
        }
    }

    private static void keep() {
        promise = 26;
        SlopeCoins coins = cityOf("g2 1 10;o1 0 1;c1 5 0;c2 6 0;");
        due("keep(0)", coins.keep(0), 0);
        coins.lets(0, 0, 0);
        due("keep(0), in does not count", coins.keep(0), 0);
        coins.lets(1, 0, 0);
        due("keep(1)", coins.keep(1), 1);
        coins.lets(1, 0, 0);
        due("keep(0), kept anew", coins.keep(0), 2);
        due("count(5), keeping is no deed", coins.count(5), 3);
        due("keep(2)", coins.keep(2), BAD);
        for (int bad : WRONG_NUMBERS) {
            due("keep(" + bad + ")", coins.keep(bad), BAD);
        }
        due("back(1)", coins.back(1), 1);
        due("back(0)", coins.back(0), 2);
    }

    private static void back() {
        promise = 27;
        SlopeCoins coins = cityOf("g3 2 321 210;o0 1 2;c1 5 0;c3 7 0;");
        due("back(0), none kept", coins.back(0), STATE);
        due("back(2)", coins.back(2), BAD);
        for (int bad : WRONG_NUMBERS) {
            due("back(" + bad + ")", coins.back(bad), BAD);
        }
        coins.lets(0, 0, 1);
        coins.lets(1, 0, 0);
        coins.sets(0, 0, 1);
        coins.cobble(1, 0, 1);
        coins.keep(1);
        coins.lets(0, 0, 1);
        coins.sweep(2, 1);
        coins.takes(0, 0, 1);
        coins.cobble(1, 0, 1);
        coins.saw(0, 0, 21);
        coins.mark(0, 0, 0);
        coins.type('g');
        due("back(0), none kept", coins.back(0), STATE);
        due("back(1)", coins.back(1), 1);
        due("cell(1, 0, 0)", coins.cell(1, 0, 0), 3);
        due("cell(0, 0, 6)", coins.cell(0, 0, 6), 11);
        int[] wanted = {2, 1, 7, 1, 5, 1};
        for (int what = 0; what <= 5; what++) {
            due("now(" + what + ")", coins.now(what), wanted[what]);
        }
        due("count(4), nothing else", coins.count(4), 1);
        due("count(6), nothing else", coins.count(6), 1);
        due("trace(), nothing else", coins.trace(), 1);
        due("count(5)", coins.count(5), 4);
        due("undo()", coins.undo(), 3);
        due("cell(1, 0, 0)", coins.cell(1, 0, 0), 2);
        due("undo()", coins.undo(), 2);
        due("now(5)", coins.now(5), 0);
        due("back(1), again", coins.back(1), 1);
        due("now(5)", coins.now(5), 1);
        due("count(5)", coins.count(5), 4);
        backToDeeds();
    }

    private static void backToDeeds() {
        SlopeCoins coins = cityOf("g2 1 55;o1 0 2;k0 0 1;c1 5 0;c3 7 0;");
        coins.lets(0, 1, 0);
        coins.lets(1, 0, 0);
        coins.lets(1, 0, 0);
        coins.cobble(1, 0, 1);
        coins.sweep(0, 0);
        coins.keep(0);
        for (int other = 0; other < 10; other++) {
            coins.cobble(0, 0, other % 2);
        }
        due("back(0)", coins.back(0), 0);
        due("undo() of sweep", coins.undo(), 4);
        due("cell(0, 0, 2)", coins.cell(0, 0, 2), 2);
        due("cell(0, 0, 3)", coins.cell(0, 0, 3), 14);
        due("undo() of cobble", coins.undo(), 3);
        due("cell(1, 0, 0)", coins.cell(1, 0, 0), 5);
        due("cell(0, 0, 0)", coins.cell(0, 0, 0), 5);
        coins.undo();
        due("cell(0, 0, 3)", coins.cell(0, 0, 3), 7);
        coins.undo();
        due("cell(0, 0, 3)", coins.cell(0, 0, 3), 0);
        due("undo() of lets, in", coins.undo(), 0);
        due("cell(1, 0, 5)", coins.cell(1, 0, 5), 0);
    }

    private static void count() {
        promise = 28;
        SlopeCoins coins = cityOf("g3 2 321 210;o0 1 2;o1 1 2;c1 5 0;c3 7 0;c4 7 0;");
        coins.saw(0, 0, 0);
        coins.cobble(0, 0, 0);
        coins.cobble(0, 0, 0);
        write(coins, "hello");
        int[] wanted = {3, 2, 2, 3, 1, 2, 5};
        for (int what = 0; what <= 6; what++) {
            due("count(" + what + ")", coins.count(what), wanted[what]);
        }
        due("count(7)", coins.count(7), BAD);
        for (int bad : WRONG_NUMBERS) {
            due("count(" + bad + ")", coins.count(bad), BAD);
        }
    }

    private static void trace() {
        promise = 29;
        SlopeCoins coins = cityOf(STAIRS);
        long[] wanted = {1, 11, 101, 1011, 10101, 100001};
        long sum = 0;
        for (int of = 0; of <= 5; of++) {
            coins.mark(of, 1, 1);
            sum += wanted[of];
            due("trace() after mark(" + of + ", 1, 1)", coins.trace(), sum);
        }
        coins.mark(6, 0, 0);
        coins.mark(1, 9, 0);
        coins.cell(0, 0, 0);
        coins.rain(0);
        due("trace() after what was refused", coins.trace(), sum);
        coins.keep(0);
        coins.mark(0, 0, 0);
        coins.back(0);
        due("trace() after back(0)", coins.trace(), sum + 1);
    }
}
