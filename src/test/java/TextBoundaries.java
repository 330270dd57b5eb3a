/** The boundaries of the text and of what it tells: Terms 1 and promises 1 to 4. */
public final class TextBoundaries {
    private static final String SIX_BY_FIVE = "012345678901234567890123456789";

    public static void main(String[] args) {
        newObject();
        bytes();
        lengthOfText();
        cleared();
        itemsRead();
        nothingChangesByFault();
        sizeOfCity();
        heights();
        rows();
        groundOnceAndFirst();
        kerbsTold();
        kerbsToldAgain();
        gratingsTold();
        gratingsAtMost();
        gratingOfItsOwn();
        kindsTold();
        kindsAtMost();
        blanks();
        tokens();
        numbers();
        endsTooEarly();
        firstFault();
        emptyText();
        readAnew();
        Scene.finish();
    }

    private static String repeated(String part, int times) {
        return part.repeat(times);
    }

    private static Scene reads(String text, int items) {
        return Scene.fresh().types(text).due("city: " + items + ", count 6: 0");
    }

    private static void faults(String text, int place) {
        Scene.fresh().types(text).due("city: " + (-10 - place) + ", count 6: " + text.length() + ", count 0: 0, count 3: 0");
    }

    /** An item whose one number, written as #, may be from least to most: all others are faults at its place. */
    private static void bounds(String text, int least, int most) {
        int place = text.indexOf('#');
        for (int number = 0; number <= 120; number++) {
            String told = text.replace("#", String.valueOf(number));
            if (number >= least && number <= most) {
                reads(told, told.split(";").length);
            } else {
                faults(told, place);
            }
        }
        noNumbers(text);
    }

    private static void noNumbers(String text) {
        int place = text.indexOf('#');
        String[] wrong = {"00", "01", "09", "001", "000", "100", "999", "1000", "4294967296", "4294967297",
            "18446744073709551617", ";", "-1", "+1", "*", "A"};
        for (String other : wrong) {
            faults(text.replace("#", other), place);
        }
        faults(text.substring(0, place), place);
    }

    private static void newObject() {
        Scene.sentence("SlopeCoins(): No CELLS.");
        Scene.fresh().due("count 0: 0, count 1: 0, count 2: 0, count 3: 0, count 4: 0, count 5: 0, count 6: 0");
        Scene.fresh().due("now 0: 0, now 1: 0, now 2: 0, now 3: 0, now 4: 0, now 5: 0, now 6: 1, trace: 0");
        Scene.fresh().due("cell 0 0 0: BAD, kind 0 0: BAD, lets 0 0 0: BAD, sets 0 0 0: BAD, takes 0 0 0: BAD");
        Scene.fresh().due("cobble 0 0 1: BAD, sweep 0 0: BAD, undo: STATE, end 0 0 0 0: BAD, doors 0 0 0: BAD");
        Scene.fresh().due("planks 0 0 0 0: BAD, paved 0 0 0 0: BAD, feet 0 0 0 0: BAD, apart 0 1: BAD, saw 0 0 0: BAD");
        Scene.fresh().due("mark 0 0 0: NO, back 0: STATE, back 1: STATE, clear: 0, forget: 0");
    }

    private static void bytes() {
        Scene.sentence("A byte (0 .. 255) comes to THE TEXT: how many it has. BAD");
        Scene.fresh().due("type 0: 1, type 255: 2, type -1: BAD, type 256: BAD, type MIN: BAD, type MAX: BAD, count 6: 2");
        Scene.fresh().due("type 359: BAD, type -153: BAD, type 65639: BAD, city: 0");
        Scene.unchangedWhenRich("type -1: BAD, type 256: BAD");
    }

    private static void lengthOfText() {
        Scene.sentence("The city is a text (200 bytes at most); type: FULL");
        String longest = "g1 1 7" + repeated(" ", 193) + ";";
        Scene.fresh().types(longest.substring(0, 198)).due("type 32: 199, type 59: 200, type 59: FULL, city: 1, cell 0 0 0: 7");
        Scene.fresh().types(longest).due("type 48: FULL, type 0: FULL, type 255: FULL, count 6: 200");
        Scene.fresh().types(longest).due("type 256: BAD, type -1: BAD, count 6: 200, city: 1, type 32: 1");
        reads(longest, 1).due("cell 0 0 0: 7");
        faults("g1 1 7" + repeated(" ", 194), 200);
        faults("g1 1 7" + repeated(" ", 193) + "x", 199);
        faults(repeated(" ", 199) + "k", 199);
        faults(repeated(" ", 199) + "g", 200);
        StringBuilder typed = new StringBuilder("clear");
        for (char sign : longest.toCharArray()) {
            typed.append(", type ").append((int) sign);
        }
        Scene.unchanged("g1 1 3;c1 1 0;", "lets 0 0 0, keep 0, " + typed, "type 59: FULL, type 256: BAD");
    }

    private static void cleared() {
        Scene.sentence("clear: THE TEXT is empty: how many bytes it had");
        Scene.fresh().due("clear: 0, clear: 0, type 120: 1, clear: 1, clear: 0, count 6: 0");
        Scene.fresh().types(repeated(";", 200)).due("clear: 200, count 6: 0, type 59: 1, clear: 1, city: 0");
        Scene.of("g2 1 34;").types("x").due("city: -10, clear: 1, count 0: 2, cell 1 0 0: 4");
        Scene.unchanged("g2 1 34;c1 1 0;", "lets 0 0 0, saw 0 0 0, keep 1", "clear: 0");
        Scene.fresh().types("g1 1 xxxxxxxxx").does("clear").types("g1 1 4;").due("city: 1, cell 0 0 0: 4");
    }

    private static void itemsRead() {
        Scene.sentence("city: THE TEXT tells all, and is empty then: how many ITEMS");
        reads("g1 1 0;", 1).due("city: 0, count 0: 0");
        reads("g1 1 0;" + repeated("k0 0 0;", 27), 28);
        reads("g1 1 0;o0 0 1;c1 1 0;", 3).due("count 2: 1, count 3: 1, type 32: 1");
        reads("g2 2 9876;o0 0 1;o1 0 2;o0 1 3;o1 1 4;c1 1 0;c2 2 1;c3 3 0;c4 4 1;c5 5 0;", 10).due("count 2: 4, count 3: 5");
        // what is behind the text's length, left from an older text, is not read
        Scene.fresh().types("g2 1 12;c1 1 0;c1 1 0;").due("city: 3").types("g1 1 5;").due("city: 1, count 3: 0");
    }

    private static void nothingChangesByFault() {
        Scene.sentence("city: -10 less FAULT: nothing changes");
        String[] texts = {"x", "g", "g1 1 5", "g1 1 5;x", "g1 1 5;k", "g1 1 5;o0 0 1;o0 0 1;", "g6 5 " + SIX_BY_FIVE + ";c1 1 2;", ";"};
        int[] places = {0, 1, 6, 7, 8, 17, 41, 0};
        for (int at = 0; at < texts.length; at++) {
            StringBuilder typed = new StringBuilder(Scene.RICH_DEEDS).append(", clear");
            for (char sign : texts[at].toCharArray()) {
                typed.append(", type ").append((int) sign);
            }
            Scene.unchanged(Scene.RICH_CITY, typed.toString(), "city: " + (-10 - places[at]));
        }
        Scene.of("g1 1 3;").types("g1 1 5").due("city: -16, city: -16, type 59: 7, city: 1, cell 0 0 0: 5");
    }

    private static void sizeOfCity() {
        Scene.sentence("X 0 .. W less 1, Y 0 .. H less 1 (W 1 .. 6, H 1 .. 5)");
        for (int wide = 0; wide <= 8; wide++) {
            for (int high = 0; high <= 8; high++) {
                String text = "g" + wide + " " + high + " " + repeated("4", wide * high) + ";";
                if (wide < 1 || wide > 6) {
                    faults(text, 1);
                } else if (high < 1 || high > 5) {
                    faults(text, 3);
                } else {
                    reads(text, 1).due("count 0: " + wide + ", count 1: " + high
                        + ", cell " + (wide - 1) + " " + (high - 1) + " 0: 4, cell 0 0 0: 4"
                        + ", cell " + wide + " 0 0: BAD, cell 0 " + high + " 0: BAD, cell -1 0 0: BAD, cell 0 -1 0: BAD");
                }
            }
        }
        noNumbers("g# 1 5;");
        noNumbers("g1 # 5;");
    }

    private static void heights() {
        Scene.sentence("each has a HEIGHT (0 .. 9)");
        Scene row = reads("g5 2 01234 56789;", 1);
        for (int height = 0; height <= 9; height++) {
            row.due("cell " + height % 5 + " " + height / 5 + " 0: " + height);
        }
        faults("g2 1 0/;", 6);
        faults("g2 1 9:;", 6);
        faults("g2 1 -1;", 5);
    }

    private static void rows() {
        Scene.sentence("rows (W times H figures 0 .. 9 side by side, blanks between them well: HEIGHTS, X rising, Y by Y)");
        reads("g6 5 " + SIX_BY_FIVE + ";", 1).due("cell 5 4 0: 9, cell 0 4 0: 4, cell 5 0 0: 5, cell 0 1 0: 6");
        reads("g3 2 007 100;", 1).due("cell 0 0 0: 0, cell 1 0 0: 0, cell 2 0 0: 7, cell 0 1 0: 1, cell 2 1 0: 0");
        reads("g3 2 0 0 7 1   0 0;", 1).due("cell 2 0 0: 7, cell 0 1 0: 1");
        reads("g3 2 0071 00;", 1).due("cell 2 0 0: 7, cell 0 1 0: 1");
        Scene.sentence("a figure that is missing");
        faults("g6 5 " + SIX_BY_FIVE.substring(1) + ";", 34);
        faults("g6 5 " + SIX_BY_FIVE.substring(1) + " ;", 35);
        faults("g1 1 ;", 5);
        faults("g1 1;", 4);
        faults("g2 1 1k;", 6);
        faults("g2 1 1 k;", 7);
        faults("g6 5 " + SIX_BY_FIVE.substring(1), 34);
        Scene.sentence("one figure more can't stand there");
        faults("g6 5 " + SIX_BY_FIVE + "0;", 35);
        faults("g6 5 " + SIX_BY_FIVE + " 0;", 36);
        faults("g1 1 5000;", 6);
        faults("g1 1 5 007;", 7);
        faults("g1 15;", 3);
        faults("g11 5;", 1);
    }

    private static void groundOnceAndFirst() {
        Scene.sentence("g W H and rows, once, first of all: another ITEM first than g, g again");
        faults("k0 0 0;g1 1 5;", 0);
        faults("o0 0 1;g1 1 5;", 0);
        faults("c1 1 0;g1 1 5;", 0);
        faults("   c1 1 0;", 3);
        faults("c", 0);
        faults("g1 1 5;g1 1 5;", 7);
        faults("g1 1 5; g", 8);
        faults("g1 1 5;k0 0 0;o0 0 1;c1 1 0;g1 1 5;", 28);
    }

    private static void kerbsTold() {
        Scene.sentence("k X Y D (a kerb), WAYS: 0 north, 1 east, 2 south, 3 west");
        int[] beyondX = {1, 2, 1, 0};
        int[] beyondY = {0, 1, 2, 1};
        int[] beyondWays = {1 + 4, 2 + 8, 4 + 1, 8 + 2};
        for (int way = 0; way < 4; way++) {
            reads("g3 3 000000000;k1 1 " + way + ";", 2).due("cell 1 1 6: " + (1 << way)
                + ", cell " + beyondX[way] + " " + beyondY[way] + " 6: " + beyondWays[way]);
        }
        bounds("g6 5 " + SIX_BY_FIVE + ";k# 4 0;", 0, 5);
        bounds("g6 5 " + SIX_BY_FIVE + ";k5 # 0;", 0, 4);
        bounds("g6 5 " + SIX_BY_FIVE + ";k5 4 #;", 0, 3);
        bounds("g1 1 5;k# 0 0;", 0, 0);
        bounds("g1 1 5;k0 # 0;", 0, 0);
        faults("g6 1 000000;k0 1 0;", 15);
        faults("g1 5 00000;k1 0 0;", 12);
    }

    private static void kerbsToldAgain() {
        Scene.sentence("KERBS: a side of a CELL (told from one side or the other); told again: well");
        reads("g2 2 0000;k0 0 1;k0 0 1;k1 0 3;", 4).due("cell 0 0 6: 11, cell 1 0 6: 11, cell 0 1 6: 12, cell 1 1 6: 6");
        reads("g2 2 0000;k0 0 2;", 2).due("cell 0 0 6: 13, cell 0 1 6: 13, cell 1 0 6: 3, cell 1 1 6: 6");
        reads("g2 2 0000;k0 1 0;", 2).due("cell 0 0 6: 13, cell 0 1 6: 13, cell 1 0 6: 3, cell 1 1 6: 6");
        Scene.sentence("the edge of the city has them");
        reads("g1 1 0;", 1).due("cell 0 0 6: 15");
        reads("g1 1 0;k0 0 0;k0 0 1;k0 0 2;k0 0 3;", 5).due("cell 0 0 6: 15, mark 1 0 0: 4");
        reads("g3 3 000000000;k0 0 0;k2 2 2;", 3).due("cell 0 0 6: 9, cell 1 0 6: 1, cell 2 0 6: 3, cell 0 1 6: 8, cell 1 1 6: 0"
            + ", cell 2 1 6: 2, cell 0 2 6: 12, cell 1 2 6: 4, cell 2 2 6: 6");
        // the edge to the west is no way around to the row above
        reads("g2 2 9990;k0 1 3;", 2).due("cell 1 0 6: 3");
    }

    private static void gratingsTold() {
        Scene.sentence("o X Y S (a grating): SIZE (1 .. 9)");
        bounds("g6 5 " + SIX_BY_FIVE + ";o# 4 1;", 0, 5);
        bounds("g6 5 " + SIX_BY_FIVE + ";o5 # 1;", 0, 4);
        bounds("g6 5 " + SIX_BY_FIVE + ";o5 4 #;", 1, 9);
        reads("g6 5 " + SIX_BY_FIVE + ";o5 4 9;o0 0 1;", 3).due("cell 5 4 1: 9, cell 0 0 1: 1, cell 5 3 1: 0, count 2: 2");
    }

    private static void gratingsAtMost() {
        Scene.sentence("GRATINGS (4 at most): a fifth grating");
        String four = "g3 2 000000;o0 0 1;o1 0 2;o2 0 3;o0 1 4;";
        reads(four, 5).due("count 2: 4, cell 0 1 1: 4, cell 1 1 1: 0");
        faults(four + "o1 1 1;", 40);
        faults(four + "  o1 1 1;", 42);
        faults(four + "o", 40);
        faults(four + "ox", 40);
        faults(four + "o0 0 1;", 40);
        faults(four + "o9 9 99;", 40);
        reads(four + "c1 1 0;k0 0 1;", 7);
    }

    private static void gratingOfItsOwn() {
        Scene.sentence("each on a CELL of its own: one on a CELL that has one (at the Y)");
        faults("g2 2 0000;o1 0 1;o1 0 1;", 20);
        faults("g2 2 0000;o1 1 9;o  1    1 2;", 25);
        faults("g2 2 0000;o1 1 9;o1 1", 20);
        faults("g2 2 0000;o1 1 9;o1 1 0;", 20);
        faults("g2 2 0000;o1 1 9;o1 1 x", 20);
        faults("g2 2 0000;o1 1 9;o2 1 1;", 18);
        faults("g2 2 0000;o1 1 9;o1 01 1;", 20);
        faults("g2 2 0000;o0 0 1;o0 1 1;o0 0 1;", 27);
        reads("g2 2 0000;o1 0 1;o0 1 1;o1 1 1;o0 0 1;", 5);
    }

    private static void kindsTold() {
        Scene.sentence("c S W F (a kind): SIZE (1 .. 9), WORTH (1 .. 99), FORGED (1) or not (0)");
        bounds("g1 1 5;c# 1 0;", 1, 9);
        bounds("g1 1 5;c1 # 0;", 1, 99);
        bounds("g1 1 5;c1 1 #;", 0, 1);
        reads("g1 1 5;c9 99 1;c1 1 0;", 3).due("kind 0 0: 9, kind 0 1: 99, kind 0 2: 1, kind 1 0: 1, kind 1 1: 1, kind 1 2: 0");
    }

    private static void kindsAtMost() {
        Scene.sentence("KINDS 0 .. (5 of them at most): a sixth kind");
        String five = "g1 1 5;" + repeated("c1 1 0;", 4) + "c7 8 1;";
        reads(five, 6).due("count 3: 5, kind 4 0: 7, kind 4 1: 8, kind 4 2: 1, kind 5 0: BAD");
        faults(five + "c1 1 0;", 42);
        faults(five + "   c1 1 0;", 45);
        faults(five + "c", 42);
        faults(five + "c0 0 9;", 42);
        reads(five + "k0 0 0;o0 0 9;", 8);
    }

    private static void blanks() {
        Scene.sentence("blanks (32) between TOKENS");
        reads("  g  2  1  3  4  ;  k  0  0  1  ;  o  0  0  9  ;  c  9  99  1  ;  ", 4).due("cell 1 0 0: 4, kind 0 1: 99");
        reads("g2 1 34;k0 0 1;o0 0 9;c9 99 1;", 4).due("cell 1 0 0: 4, kind 0 1: 99");
        faults("g 2 1 3 4;c1 9 9 0;", 15);
        faults("g2 1 34;k00 1;", 9);
        faults("g2 1 34;k0 01;", 11);
        for (int sign = 0; sign <= 255; sign++) {
            String between = "g2 1 34;" + (char) sign + "c1 1 0;";
            if (sign == ' ') {
                reads(between, 2);
            } else {
                faults(between, 8);
            }
        }
    }

    private static void tokens() {
        Scene.sentence("TOKENS are letters a .. z side by side, NUMBERS and ; : of a byte that begins none, that TOKEN's");
        for (int sign = 0; sign <= 255; sign++) {
            boolean figure = sign >= '0' && sign <= '9';
            boolean letter = sign >= 'a' && sign <= 'z';
            boolean blank = sign == ' ';
            String byteHere = String.valueOf((char) sign);
            readsByte("", byteHere, blank ? 0 : sign == 'g' ? -11 : -10);
            readsByte("g", byteHere, letter ? -10 : blank || sign >= '1' && sign <= '6' ? -12 : -11);
            readsByte("g1", byteHere, figure ? -11 : blank ? -13 : -12);
            readsByte("g1 1 ", byteHere, figure || blank ? -16 : -15);
            readsByte("g1 1 5", byteHere, sign == ';' ? 1 : blank ? -17 : -16);
            readsByte("g1 1 5;", byteHere, blank ? 1 : sign == 'k' || sign == 'o' || sign == 'c' ? -18 : -17);
            readsByte("g1 1 5;k", byteHere, letter ? -17 : blank || sign == '0' ? -19 : -18);
            readsByte("g1 1 5;k0", byteHere, figure ? -18 : blank ? -20 : -19);
            readsByte("g1 1 5;k0 0 0", byteHere, figure ? -22 : sign == ';' ? 2 : blank ? -24 : -23);
            readsByte("g1 1 5;c1 1", byteHere, blank || figure ? -22 : -21);
        }
        Scene.sentence("letters that begin no ITEM");
        for (String letters : new String[] {"a", "b", "z", "kk", "ok", "co", "gk", "kg", "city", "kerb"}) {
            faults("g1 1 5;" + letters + "0 0 0;", 7);
            faults(letters.equals("gk") ? "gk1 1 5;" : letters + "1 1 5;", 0);
        }
    }

    private static void readsByte(String ahead, String byteHere, int want) {
        Scene.fresh().types(ahead + byteHere).due("city: " + want);
    }

    private static void numbers() {
        Scene.sentence("a NUMBER above 99 or with a 0 ahead of others, that TOKEN's");
        reads("g1 1 5;c1 99 0;", 2).due("kind 0 1: 99");
        faults("g1 1 5;c1 100 0;", 10);
        faults("g1 1 5;c1 101 0;", 10);
        faults("g1 1 5;c1 099 0;", 10);
        faults("g1 1 5;c1 09 0;", 10);
        reads("g1 1 5;c1 10 0;", 2).due("kind 0 1: 10");
        faults("g" + repeated("9", 199), 1);
        faults("g" + repeated("0", 199), 1);
        faults("g1 1 5;c1 " + repeated("1", 190), 10);
        faults("g1 1 5;k0 0 00;", 12);
        // a number too long is wrong also where no number may stand
        faults("g1 1 5;c1 1 0 100;", 14);
        faults("100;", 0);
    }

    private static void endsTooEarly() {
        Scene.sentence("the text's length, if it ends too early");
        String whole = "g2 2 01 98;k1 0 2;o1 1 9;c9 99 1;c1 1 0;";
        int items = 0;
        for (int length = 0; length <= whole.length(); length++) {
            String text = whole.substring(0, length);
            boolean closed = length == 0 || text.charAt(length - 1) == ';';
            items += closed && length > 0 ? 1 : 0;
            for (int blanks = 0; blanks <= 3; blanks++) {
                String behind = text + repeated(" ", blanks);
                if (closed) {
                    reads(behind, items);
                } else {
                    faults(behind, length + blanks);
                }
            }
        }
    }

    private static void firstFault() {
        Scene.sentence("FAULT: the place of the first byte of the first TOKEN that can't stand there");
        faults("g7 6 x", 1);
        faults("g6 6 x", 3);
        faults("g1 1 5;k1 1 4;", 8);
        faults("g1 1 5;k0 1 4;", 10);
        faults("g1 1 5;o1 1 0;", 8);
        faults("g1 1 5;c0 0 2;", 8);
        faults("g1 1 5;c1 0 2;", 10);
        faults("g1 1 5;c1 1 2;", 12);
        faults("g1 1 5;c1 1 1 x", 14);
        faults("g1 1 5;;;", 7);
        faults("g1 1 5;c1 1 1;;", 14);
    }

    private static void emptyText() {
        Scene.sentence("(An empty text: no CELLS.)");
        reads("", 0).due("count 0: 0, count 1: 0, rain 0: NONE, rain 1: 0");
        Scene.rich().does("clear").due("city: 0, count 0: 0, count 1: 0, count 2: 0, count 3: 0, count 4: 0, count 5: 0"
            + ", count 6: 0, now 0: 0, now 1: 0, now 2: 0, now 3: 0, now 4: 0, now 5: 0, now 6: 1, cell 0 0 0: BAD"
            + ", kind 0 0: BAD, undo: STATE, back 0: STATE, back 1: STATE, moved 0: 0, moved 1: NONE, rolls: 0");
        // also when larger ones were read ahead of it
        Scene.of("g3 2 123456;c1 1 0;").types("g2 3 123456;o0 0 1;").due("city: 2, city: 0, count 0: 0, count 1: 0, count 2: 0, count 3: 0, cell 0 0 0: BAD"
            + ", rain 0: NONE, rain 1: 0, moved 0: 0, city: 0, count 0: 0, count 1: 0, count 2: 0, cell 0 0 0: BAD");
        // blanks alone hold no token that could be wrong, and end no item too early
        reads(" ", 0);
        reads(repeated(" ", 200), 0);
    }

    private static void readAnew() {
        Scene.sentence("Read anew: as told, nothing LIES, no PLANKS, nothing SEEN or to be UNDONE, IMAGES are gone");
        Scene rich = Scene.rich().does("clear").types(Scene.RICH_CITY).due("city: 6");
        rich.due("count 4: 0, count 5: 0, count 6: 0, now 0: 0, now 1: 0, now 2: 0, now 3: 0, now 4: 0, now 5: 0, now 6: 1");
        rich.due("cell 0 1 0: 3, cell 2 1 0: 0, cell 0 0 6: 13, cell 1 0 6: 1, cell 1 1 6: 4, cell 2 1 6: 6, cell 1 1 4: 0");
        rich.due("undo: STATE, back 0: STATE, back 1: STATE, keep 1: 0, back 0: STATE, back 1: 0");
        // nothing of a larger city is left in a smaller one, nor of that when it is large again
        Scene anew = Scene.of("g3 3 999999999;k1 1 0;k1 1 3;o1 1 9;c1 1 0;").types("g2 2 1234;").due("city: 1");
        anew.due("cell 1 1 6: 6, cell 1 1 1: 0, cell 0 0 6: 9, cell 2 0 0: BAD, cell 0 2 0: BAD, count 2: 0, count 3: 0");
        anew.types("g3 3 111111111;c2 2 0;").due("city: 2, cell 1 1 6: 0, cell 1 1 1: 0, cell 2 2 0: 1, kind 0 0: 2, kind 1 0: BAD");
        // what a faulty text told ahead of its fault is not left either
        anew.types("g3 3 555555555;k1 1 0;o0 0 9;c9 9 1;!").due("city: -46, cell 0 0 0: 1, cell 0 0 1: 0, kind 0 0: 2, clear: 37");
        anew.types("g3 3 222222222;").due("city: 1, cell 1 1 6: 0, cell 0 0 1: 0, count 2: 0, count 3: 0");
    }
}
