/** The boundaries of how coins roll, what is asked of it and what was seen: Terms 2, 3 and promises 14 to 24. */
public final class RollBoundaries {
    private static final int[] STEP_X = {0, 1, 0, -1};
    private static final int[] STEP_Y = {-1, 0, 1, 0};
    private static final int ALL_THIRTY = (1 << 30) - 1;
    private static final String LEVEL = "g6 5 555555555555555555555555555555;";
    private static final String SLOPE = "g6 5 012345 123456 234567 345678 456789;";
    // the coin in the middle may go all four ways
    private static final String PEAK = "g3 3 111 121 111;c1 1 0;c1 1 1;";

    public static void main(String[] args) {
        fallsIn();
        lower();
        kerbOrPlankBetween();
        lowest();
        noneStraightOn();
        straightOn();
        itEnds();
        nothingIsChanged();
        end();
        past();
        doors();
        planksAsked();
        planksFewest();
        planksFirst();
        planksSecond();
        planksWhenFull();
        seen();
        forget();
        so();
        moved();
        movedBounds();
        paved();
        rain();
        feet();
        apart();
        rolls();
        Scene.finish();
    }

    private static void fallsIn() {
        Scene.sentence("coins of that SIZE or less that come there, or are let go there, fall in");
        for (int grating = 1; grating <= 9; grating++) {
            for (int size = 1; size <= 9; size++) {
                boolean in = size <= grating;
                Scene.of("g3 1 012;o1 0 " + grating + ";c" + size + " 1 0;c" + size + " 1 1;").due(
                    "end 0 1 0 0: " + (in ? 110 : 0) + ", end 0 2 0 0: " + (in ? 110 : 0) + ", end 1 2 0 1: " + (in ? 1 : 2));
                Scene.of("g1 1 0;o0 0 " + grating + ";c" + size + " 1 0;").due("lets 0 0 0: " + (in ? 100 : 0) + ", now 3: " + (in ? 1 : 0));
            }
        }
    }

    private static void lower() {
        Scene.sentence("of the CELLS beside that are lower; If none is lower, it LIES there");
        for (int here = 0; here <= 9; here++) {
            for (int beside = 0; beside <= 9; beside++) {
                int end = beside < here ? 10 : 0;
                Scene.of("g2 1 " + here + beside + ";c1 1 0;c1 1 1;").due("end 0 0 0 0: " + end + ", end 1 0 0 0: " + end);
            }
        }
        Scene.of("g1 1 9;c1 1 0;").due("end 0 0 0 0: 0, end 0 0 0 1: 0, end 0 0 0 2: 1");
    }

    private static void kerbOrPlankBetween() {
        Scene.sentence("(no KERB, no PLANK between); KERBS: a side of a CELL that no coin crosses");
        Scene.of("g2 1 90;k0 0 1;c1 1 0;").due("end 0 0 0 0: 0");
        Scene.of("g2 1 90;k1 0 3;c1 1 0;").due("end 0 0 0 0: 0");
        Scene.of("g1 2 90;k0 0 2;c1 1 0;").due("end 0 0 0 0: 0");
        Scene.of("g1 2 09;k0 0 2;c1 1 0;").due("end 0 0 1 0: 1");
        Scene.of("g2 1 90;c1 1 0;").due("end 0 0 0 0: 10, sets 1 0 3: 1, end 0 0 0 0: 0, takes 0 0 1: 0, end 0 0 0 0: 10");
        // a lower cell behind the edge, in the next row, is not beside
        Scene.of("g2 2 9908;k0 0 2;k1 0 2;c1 1 0;").due("end 0 1 0 0: 10, end 0 0 0 0: 0");
    }

    private static void lowest() {
        Scene.sentence("it goes to the lowest");
        for (int way = 0; way < 4; way++) {
            int[] heights = {9, 4, 9, 4, 5, 4, 9, 4, 9};
            heights[4 + STEP_X[way] + 3 * STEP_Y[way]] = 3;
            int end = 10 * (1 + STEP_X[way]) + 1 + STEP_Y[way];
            Scene.of(threeByThree(heights)).due("end 0 1 1 0: " + end + ", end 1 1 1 0: " + end);
        }
        // straight on is lower, but another one is lowest
        Scene.of("g3 2 754 999;k0 0 2;c1 1 0;").due("end 0 0 0 0: 20");
        Scene.of("g3 2 754 939;k0 0 2;c1 1 0;").due("end 0 0 0 0: 11");
    }

    /** For each set of ways that are lowest alike: let go there, it came by none of them. */
    private static void noneStraightOn() {
        Scene.sentence("else to the north, east, south, west, the first of these (FORGED ones: west, south, east, north)");
        for (int ways = 0; ways < 16; ways++) {
            int[] heights = {9, 6, 9, 6, 5, 6, 9, 6, 9};
            lowerBy(heights, ways);
            Scene.of(threeByThree(heights)).due("end 0 1 1 0: " + endBy(firstOf(ways, false)) + ", end 1 1 1 0: " + endBy(firstOf(ways, true)));
        }
    }

    /** The same for a coin that comes there, by each way. */
    private static void straightOn() {
        Scene.sentence("of several lowest ones straight on (the WAY by which it came), if that is one of these");
        for (int came = 0; came < 4; came++) {
            int back = (came + 2) % 4;
            for (int ways = 0; ways < 16; ways++) {
                if ((ways >> back & 1) == 0) {
                    int[] heights = {9, 6, 9, 6, 5, 6, 9, 6, 9};
                    heights[4 + STEP_X[back] + 3 * STEP_Y[back]] = 8;
                    lowerBy(heights, ways);
                    boolean on = (ways >> came & 1) != 0;
                    String from = (1 + STEP_X[back]) + " " + (1 + STEP_Y[back]) + " 0: ";
                    Scene.of(threeByThree(heights)).due("end 0 " + from + endBy(on ? came : firstOf(ways, false))
                        + ", end 1 " + from + endBy(on ? came : firstOf(ways, true)));
                }
            }
        }
    }

    private static String threeByThree(int[] heights) {
        StringBuilder text = new StringBuilder("g3 3 ");
        for (int height : heights) {
            text.append(height);
        }
        return text.append(";c1 1 0;c1 1 1;").toString();
    }

    private static void lowerBy(int[] heights, int ways) {
        for (int way = 0; way < 4; way++) {
            if ((ways >> way & 1) != 0) {
                heights[4 + STEP_X[way] + 3 * STEP_Y[way]] = 4;
            }
        }
    }

    private static int firstOf(int ways, boolean forged) {
        for (int turn = 0; turn < 4; turn++) {
            int way = forged ? 3 - turn : turn;
            if ((ways >> way & 1) != 0) {
                return way;
            }
        }
        return -1;
    }

    private static int endBy(int way) {
        return way < 0 ? 11 : 10 * (1 + STEP_X[way]) + 1 + STEP_Y[way];
    }

    private static void itEnds() {
        Scene.sentence("So on. (It ends: each step is lower.)");
        String nine = "g5 2 56789 43210;k4 0 2;k3 0 2;k2 0 2;k1 0 2;";
        Scene.of(nine + "c1 1 0;c9 1 1;").due("end 0 4 0 0: 41, end 0 4 0 1: 9, end 0 4 0 2: 1023, end 1 4 0 1: 9, lets 1 4 0: 41");
        Scene.of(nine + "o4 1 1;c1 1 0;c2 1 0;").due("end 0 4 0 0: 141, end 0 4 0 1: 9, end 1 4 0 0: 41");
        Scene.of(LEVEL + "c1 1 0;").due("end 0 5 4 1: 0, end 0 2 2 1: 0");
    }

    private static void nothingIsChanged() {
        Scene.sentence("3 (Nothing is changed.)");
        String[] asked = {"end 1 0 0 0", "end 2 1 0 1", "end 0 2 0 2", "doors 0 1 1", "planks 0 10 21 0", "planks 1 10 10 1",
            "planks 2 20 0 2", "paved 1 2 1 0", "paved 0 1 1 1", "rain 0", "rain 1", "feet 0 10 11 0", "feet 1 11 21 1",
            "apart 0 1", "rolls", "moved 0", "moved 1", "now 6", "count 0", "trace"};
        for (String call : asked) {
            Scene.same(Scene.RICH_CITY, Scene.RICH_DEEDS, call, Scene.RICH_DEEDS);
        }
    }

    private static void end() {
        Scene.sentence("END of a KIND from a CELL: a PAIR; 100 more, if it falls IN; STEPS; end: BAD");
        Scene.edges("end", "BAD", 0, 2, 0, 2, 0, 1, 0, 2);
        Scene.of(LEVEL + "o0 0 1;o5 4 1;c1 1 0;c2 1 0;").due("end 0 0 0 0: 100, end 1 0 0 0: 0, end 0 5 4 0: 154, end 1 5 4 0: 54, end 0 0 4 0: 4, end 0 5 0 0: 50");
        Scene.of("g1 1 0;").due("end 0 0 0 0: BAD, end 0 0 0 1: BAD, end 0 0 0 2: BAD");
    }

    private static void past() {
        Scene.sentence("PAST: CELLS (bits: W times Y and X) it was in, the first and the last, too");
        Scene.of(LEVEL + "c1 1 0;").due("end 0 0 0 2: 1, end 0 5 4 2: " + (1 << 29) + ", end 0 5 0 2: 32, end 0 0 1 2: 64");
        Scene.of("g2 1 10;o1 0 1;c1 1 0;").due("end 0 0 0 2: 3, end 0 1 0 2: 2");
        Scene.of("g1 5 43210;c1 1 0;").due("end 0 0 0 2: 31, end 0 0 4 2: 16, end 0 0 0 1: 4");
        Scene.of(SLOPE + "c1 1 0;").due("end 0 5 4 1: 9, end 0 5 4 2: " + (1 << 29 | 1 << 23 | 1 << 17 | 1 << 11 | 63));
    }

    private static void doors() {
        Scene.sentence("DOORS of a CELL and a KIND: CELLS (bits) from which it ENDS there (LIES or falls IN); doors: BAD");
        Scene.edges("doors", "BAD", 0, 2, 0, 2, 0, 1);
        Scene.of(SLOPE + "c1 1 0;").due("doors 0 0 0: " + ALL_THIRTY + ", doors 0 5 4: 0, doors 0 1 0: 0");
        Scene.of(SLOPE + "o0 0 1;c1 1 0;c2 1 0;").due("doors 0 0 0: " + ALL_THIRTY + ", doors 1 0 0: " + ALL_THIRTY);
        Scene.of(LEVEL + "c1 1 0;").due("doors 0 5 4: " + (1 << 29) + ", doors 0 0 0: 1");
        Scene.of("g1 1 0;").due("doors 0 0 0: BAD");
    }

    private static void planksAsked() {
        Scene.sentence("planks: SET, a PAIR from, a PAIR to: how many (what = 0), the first (1), the second (2). BAD");
        Scene.edges("planks", "BAD", 0, 2, 0, 21, 0, 21, 0, 2);
        Scene.edgesOfPair("planks 0 # 0 0");
        Scene.edgesOfPair("planks 0 0 # 0");
        Scene.of("g1 1 0;c1 1 0;").due("planks 0 0 0 0: 0, planks 0 1 0 0: BAD, planks 0 0 10 0: BAD, planks 1 0 0 0: BAD, planks 0 0 0 3: BAD");
        Scene.of("g1 1 0;").due("planks 0 0 0 0: BAD");
    }

    private static void planksAre(Scene scene, String asked, String many, String first, String second) {
        scene.due("planks " + asked + " 0: " + many + ", planks " + asked + " 1: " + first + ", planks " + asked + " 2: " + second);
    }

    private static void planksFewest() {
        Scene.sentence("SET: the fewest PLANKS more (0, 1, 2) by which a KIND from a CELL ENDS in another one (or the same); -5: not so many; NONE");
        planksAre(Scene.of(PEAK), "0 11 10", "0", "-5", "-5");
        planksAre(Scene.of(PEAK), "0 11 21", "1", "101", "-5");
        planksAre(Scene.of(PEAK), "0 11 12", "2", "101", "110");
        planksAre(Scene.of(PEAK), "0 11 1", "NONE", "NONE", "NONE");
        planksAre(Scene.of(PEAK), "0 11 11", "NONE", "NONE", "NONE");
        planksAre(Scene.of(PEAK), "1 11 1", "0", "-5", "-5");
        planksAre(Scene.of(PEAK), "1 11 12", "1", "10", "-5");
        planksAre(Scene.of(PEAK), "1 11 21", "2", "10", "111");
        planksAre(Scene.of(PEAK), "1 11 10", "NONE", "NONE", "NONE");
        planksAre(Scene.of(PEAK), "0 10 11", "NONE", "NONE", "NONE");
        planksAre(Scene.of(PEAK), "0 10 10", "0", "-5", "-5");
        // a plank that is there is none more
        planksAre(Scene.of(PEAK).does("sets 1 1 0"), "0 11 1", "2", "110", "111");
        planksAre(Scene.of(PEAK).does("sets 1 1 0, sets 2 1 3"), "0 11 1", "1", "111", "-5");
        planksAre(Scene.of(PEAK).does("sets 1 1 0, sets 2 1 3"), "0 11 11", "2", "10", "111");
        planksAre(Scene.of(PEAK).does("sets 1 1 0, sets 2 1 3, sets 1 1 2"), "0 11 1", "0", "-5", "-5");
        planksAre(Scene.of(PEAK).does("sets 1 1 0, sets 2 1 3, sets 1 1 2"), "0 11 11", "1", "10", "-5");
        planksAre(Scene.of(PEAK).does("sets 1 1 0, sets 2 1 3, sets 1 1 2, sets 1 1 3"), "0 11 11", "0", "-5", "-5");
        // none is taken away for it
        planksAre(Scene.of(PEAK).does("sets 1 1 0"), "0 11 10", "NONE", "NONE", "NONE");
        planksAre(Scene.of("g2 1 10;c1 1 0;").does("sets 0 0 1"), "0 0 10", "NONE", "NONE", "NONE");
        planksAre(Scene.of("g3 1 010;c1 1 0;").does("sets 0 0 1"), "0 10 0", "NONE", "NONE", "NONE");
        planksAre(Scene.of("g3 1 010;k0 0 1;c1 1 0;"), "0 10 0", "NONE", "NONE", "NONE");
        // none is told where it comes there as it is, though it also would by one more
        planksAre(Scene.of(SLOPE + "c1 1 0;"), "0 54 0", "0", "-5", "-5");
        // it falls in there: that is an end, too, and no plank holds it from a grating where it is let go
        planksAre(Scene.of("g3 1 101;o2 0 1;c1 1 0;"), "0 0 10", "0", "-5", "-5");
        planksAre(Scene.of("g2 1 10;o0 0 1;c1 1 0;"), "0 0 10", "NONE", "NONE", "NONE");
        planksAre(Scene.of("g1 1 5;c1 1 0;"), "0 0 0", "0", "-5", "-5");
    }

    private static void planksFirst() {
        Scene.sentence("of several rows the first (a side told as 10 times PAIR and 0 east, 1 south of it, by PAIRS as bits rise, east ahead of south)");
        // each of the three sides that it crosses westward sends it to the door: 200, 100, 0 as it goes
        planksAre(Scene.of("g4 2 0359 1246;k0 1 0;c1 1 0;"), "0 30 1", "1", "0", "-5");
        // east of 0 1 or south of it
        planksAre(Scene.of("g2 3 46 59 09;c1 1 0;"), "0 11 0", "1", "10", "-5");
        // as bits rise, not as PAIRS: 1 0 is ahead of 0 1
        planksAre(Scene.of("g3 3 111 121 111;k1 1 1;k1 1 2;c1 1 0;"), "0 11 11", "2", "101", "10");
        planksAre(Scene.of(SLOPE + "c1 1 0;"), "0 54 53", "2", "521", "430");
        // the last side of all, and the first
        planksAre(Scene.of(LEVEL.replace("55;", "56;") + "k5 4 0;c1 1 0;"), "0 54 54", "1", "440", "-5");
        planksAre(Scene.of("g6 1 012345;c1 1 0;"), "0 10 10", "1", "0", "-5");
        planksAre(Scene.of("g6 1 012345;c1 1 0;"), "0 50 50", "1", "400", "-5");
        planksAre(Scene.of("g1 5 01234;c1 1 0;"), "0 4 4", "1", "31", "-5");
        planksAre(Scene.of("g1 5 01234;c1 1 0;"), "0 4 1", "1", "1", "-5");
    }

    private static void planksSecond() {
        Scene.sentence("the first, then the second one, which is behind it");
        String slope = "g6 5 987554 876533 755332 644310 533100;c1 1 0;";
        // 0 and 121 or 100 and 121 lead to 1 2, 100 and 111 or 200 and 211 to 4 1
        planksAre(Scene.of(slope), "0 0 12", "2", "0", "121");
        planksAre(Scene.of(slope), "0 0 41", "2", "100", "111");
        // 1 and 101 or 1 and 111 lead to 0 1
        planksAre(Scene.of("g6 5 013446 124566 235677 446688 457899;c1 1 0;"), "0 12 1", "2", "1", "101");
        // 0 and 101 or 0 and 10 lead to 2 1: as bits rise, not as PAIRS
        planksAre(Scene.of("g3 2 598 476;c1 1 0;"), "0 10 21", "2", "0", "101");
        // 210 and 330 or 411 and 330 lead to 3 0
        planksAre(Scene.of("g6 5 023355 123456 235677 456688 556789;c1 1 0;"), "0 43 30", "2", "210", "330");
    }

    /** The document tells 8 of the PLANKS that are set, and names no such bound for SET. */
    private static void planksWhenFull() {
        Scene.sentence("SET: the fewest PLANKS more");
        String eight = "sets 0 0 1, sets 1 0 1, sets 0 0 2, sets 2 0 2, sets 0 2 1, sets 1 2 1, sets 0 1 2, sets 2 1 2";
        planksAre(Scene.of(PEAK).does(eight).due("now 5: 8, sets 1 1 0: FULL"), "0 11 12", "2", "101", "110");
        planksAre(Scene.of(PEAK).does(eight), "0 11 10", "0", "-5", "-5");
    }

    private static void seen() {
        Scene.sentence("SEEN (6 at most); saw: a PAIR from, a PAIR to: how much there is. BAD; FULL");
        Scene.edges("saw", "BAD", 0, 2, 0, 21, 0, 21);
        Scene.edgesOfPair("saw 0 # 0");
        Scene.edgesOfPair("saw 0 0 #");
        Scene.of("g2 1 10;c1 1 0;").due("saw 0 0 10: 1, saw 0 0 10: 2, saw 0 10 10: 3, saw 0 0 10: 4, saw 0 0 10: 5, saw 0 0 10: 6, saw 0 0 0: FULL"
            + ", count 4: 6, now 6: 1, saw 1 0 0: BAD, saw 0 20 0: BAD, saw 0 0 1: BAD, forget: 6, saw 0 0 0: 1, now 6: 0");
        Scene.unchanged("g2 1 10;c1 1 0;", "lets 0 0 0, keep 0, saw 0 0 10, saw 0 0 10, saw 0 0 10, saw 0 0 10, saw 0 0 10, saw 0 0 10",
            "saw 0 0 0: FULL, saw 0 0 10: FULL, saw 1 0 0: BAD, saw 0 0 2: BAD");
        Scene.of("g1 1 0;").due("saw 0 0 0: BAD, count 4: 0");
    }

    private static void forget() {
        Scene.sentence("forget: Nothing was SEEN: how much there was");
        Scene.fresh().due("forget: 0, count 4: 0");
        Scene.rich().due("now 6: 0, forget: 2, forget: 0, count 4: 0, now 6: 1, moved 0: 12");
        Scene.same(Scene.RICH_CITY, Scene.RICH_DEEDS, "forget: 2, saw 0 0 11: 1, saw 1 20 21: 2", Scene.RICH_DEEDS);
    }

    private static void so() {
        Scene.sentence("SO: whether all is so as it is");
        Scene.fresh().due("now 6: 1");
        Scene.of("g2 1 10;o1 0 1;c1 1 0;c2 1 0;").due("now 6: 1, saw 0 0 10: 1, saw 1 0 10: 2, now 6: 1, saw 1 10 10: 3, saw 1 0 10: 4, saw 1 0 10: 5, now 6: 1"
            + ", saw 1 0 0: 6, now 6: 0, sets 0 0 1: 1, now 6: 0, undo: 0, forget: 6, saw 0 0 0: 1, now 6: 0, sets 0 0 1: 1, now 6: 1");
    }

    private static void moved() {
        Scene.sentence("MOVED: how many; the first (PAIR as bits rise, one less ahead of one more: 10 times the PAIR, and 1, if it is one more); NONE");
        Scene.edges("moved", "BAD", 0, 1);
        Scene.fresh().due("moved 0: 0, moved 1: NONE, moved 2: BAD, moved -1: BAD");
        Scene.of(LEVEL + "c1 1 0;").due("moved 0: 60, moved 1: 0");
        Scene last = Scene.of(LEVEL + "c1 1 0;c1 1 1;").due("saw 1 54 44: 1, moved 0: 2, moved 1: 440");
        last.due("saw 0 54 53: 2, moved 0: 1, moved 1: 541, saw 0 0 1: 3, moved 0: 0, moved 1: NONE");
        // 1 0 is ahead of 0 1, as bits rise
        Scene.of("g2 2 0550;k0 0 1;k0 0 2;c1 1 0;").due("saw 0 0 0: 1, moved 0: 6, moved 1: 1, cobble 0 0 1: 1");
        Scene.of("g2 2 3553;c1 1 1;").due("saw 0 11 11: 1, saw 0 10 0: 2, moved 0: 6, moved 1: 0");
        Scene.of("g2 2 5445;k1 1 0;k1 1 3;c1 1 0;").due("saw 0 0 1: 1, moved 0: 2, moved 1: 101");
        Scene.sentence("MOVED: COBBLES (one CELL one more, or one less; not both) by which all that was SEEN is so");
        Scene.of("g3 1 555;c1 1 0;").due("saw 0 0 10: 1, moved 0: 2, moved 1: 1, saw 0 20 10: 2, moved 0: 1, moved 1: 100, saw 0 10 20: 3, moved 0: 0, moved 1: NONE");
    }

    private static void movedBounds() {
        Scene.sentence("MOVED: in the bounds");
        Scene.of("g1 1 0;c1 1 0;").due("moved 0: 1, moved 1: 1");
        Scene.of("g1 1 9;c1 1 0;").due("moved 0: 1, moved 1: 0");
        Scene.of("g1 1 1;c1 1 0;").due("moved 0: 2, moved 1: 0");
        Scene.of("g1 1 8;c1 1 0;").due("moved 0: 2, moved 1: 0");
        Scene.of("g2 1 99;c1 1 0;").due("saw 0 0 10: 1, moved 0: 1, moved 1: 100");
        Scene.of("g2 1 00;c1 1 0;").due("saw 0 0 10: 1, moved 0: 1, moved 1: 1");
        // in the bounds as it is now, not as it was told
        Scene.of("g1 1 0;c1 1 0;").does("cobble 0 0 1").due("moved 0: 2, moved 1: 0, undo: 0, moved 0: 1");
    }

    private static void paved() {
        Scene.sentence("PAVED: which COBBLE one less (0 at least) makes most DOORS of it, of several the first as bits rise; NONE: there is none that could be");
        Scene.edges("paved", "BAD", 0, 2, 0, 2, 0, 1, 0, 1);
        Scene.of("g1 1 0;c1 1 0;").due("paved 0 0 0 0: NONE, paved 0 0 0 1: NONE, paved 0 0 0 2: BAD, paved 1 0 0 0: BAD");
        Scene.of("g1 1 1;c1 1 0;").due("paved 0 0 0 0: 0, paved 0 0 0 1: 1");
        Scene.of("g1 1 9;c1 1 0;").due("paved 0 0 0 0: 0, paved 0 0 0 1: 1");
        Scene.of("g2 2 0000;c1 1 0;").due("paved 0 1 1 0: NONE, paved 0 1 1 1: NONE, cobble 1 1 1: 1, paved 0 1 1 0: 11, paved 0 1 1 1: 1");
        // one that could be is told, even if it makes fewer than there are
        Scene.of("g2 1 01;c1 1 0;").due("doors 0 0 0: 3, paved 0 0 0 0: 10, paved 0 0 0 1: 1");
        // or none: the first as bits rise, not as PAIRS
        Scene.of("g2 2 0339;c1 1 0;").due("paved 0 1 1 0: 10, paved 0 1 1 1: 0");
        Scene.of("g2 2 0039;c1 1 0;").due("paved 0 1 1 0: 1, paved 0 1 1 1: 0");
        Scene.of(LEVEL + "c1 1 0;").due("paved 0 5 4 0: 54, paved 0 5 4 1: 3, paved 0 0 0 0: 0, paved 0 0 0 1: 3, paved 0 2 2 0: 22, paved 0 2 2 1: 5");
        Scene.of("g1 1 5;").due("paved 0 0 0 0: BAD");
    }

    private static void rain() {
        Scene.sentence("RAIN: from each CELL a coin of SIZE 1 that is not FORGED: where most end (a PAIR, of several the first as bits rise), how many");
        Scene.edges("rain", "BAD", 0, 1);
        Scene.fresh().due("rain 0: NONE, rain 1: 0, rain 2: BAD, rain -1: BAD");
        Scene.of("g1 1 0;").due("rain 0: 0, rain 1: 1");
        Scene.of(LEVEL).due("rain 0: 0, rain 1: 1");
        Scene.of(SLOPE).due("rain 0: 0, rain 1: 30");
        Scene.of("g6 5 543210 654321 765432 876543 987654;").due("rain 0: 50, rain 1: 30");
        Scene.of("g2 2 9009;k0 0 1;").due("rain 0: 10, rain 1: 2");
        Scene.of("g3 1 010;").due("rain 0: 20, rain 1: 2");
        Scene.of("g3 1 012;o1 0 1;").due("rain 0: 10, rain 1: 2");
        // the last cell of all
        Scene.of(LEVEL.replace("55;", "54;")).due("rain 0: 54, rain 1: 3");
    }

    private static void feetAre(Scene scene, String asked, int upper, int lower) {
        scene.due("feet " + asked + " 0: " + upper + ", feet " + asked + " 1: " + lower);
    }

    private static void feet() {
        Scene.sentence("FEET: it is let go from there or a CELL beside (KERBS, PLANKS do not matter), each alike likely; in least terms");
        Scene.edges("feet", "BAD", 0, 2, 0, 21, 0, 21, 0, 1);
        Scene.edgesOfPair("feet 0 # 0 0");
        Scene.edgesOfPair("feet 0 0 # 1");
        feetAre(Scene.of("g1 1 0;c1 1 0;"), "0 0 0", 1, 1);
        feetAre(Scene.of("g2 1 00;c1 1 0;"), "0 0 0", 1, 2);
        feetAre(Scene.of("g2 1 00;k0 0 1;c1 1 0;"), "0 0 10", 1, 2);
        feetAre(Scene.of("g2 1 00;c1 1 0;").does("sets 0 0 1"), "0 0 10", 1, 2);
        feetAre(Scene.of("g2 1 10;k0 0 1;c1 1 0;"), "0 0 10", 1, 2);
        feetAre(Scene.of("g2 1 10;c1 1 0;"), "0 0 10", 1, 1);
        feetAre(Scene.of("g2 1 10;c1 1 0;"), "0 0 0", 0, 1);
        feetAre(Scene.of("g1 1 0;o0 0 1;c1 1 0;"), "0 0 0", 1, 1);
        Scene level = Scene.of(LEVEL + "c1 1 0;");
        feetAre(level, "0 0 0", 1, 3);
        feetAre(level, "0 54 54", 1, 3);
        feetAre(level, "0 50 50", 1, 3);
        feetAre(level, "0 4 4", 1, 3);
        feetAre(level, "0 10 10", 1, 4);
        feetAre(level, "0 53 53", 1, 4);
        feetAre(level, "0 22 22", 1, 5);
        feetAre(level, "0 22 23", 1, 5);
        feetAre(level, "0 22 54", 0, 1);
        feetAre(level, "0 10 54", 0, 1);
        feetAre(level, "0 0 54", 0, 1);
        // the last of one row is not beside the first of the next
        feetAre(level, "0 50 1", 0, 1);
        feetAre(Scene.of("g3 2 010 909;c1 1 0;"), "0 10 20", 1, 2);
        feetAre(Scene.of("g3 2 010 909;c1 1 0;"), "0 10 0", 1, 4);
        feetAre(Scene.of("g3 2 202 959;c1 1 0;"), "0 10 10", 1, 1);
        Scene slope = Scene.of(SLOPE + "c1 1 0;");
        feetAre(slope, "0 0 0", 1, 1);
        feetAre(slope, "0 10 0", 1, 1);
        feetAre(slope, "0 22 0", 1, 1);
        feetAre(Scene.of("g3 3 919 151 919;c1 1 0;"), "0 11 10", 2, 5);
        Scene.of("g1 1 0;").due("feet 0 0 0 0: BAD");
    }

    private static void apart() {
        Scene.sentence("APART of two (unlike) KINDS: CELLS (bits) from which they END unlike (other CELLS, or one LIES where the other one falls IN); apart: BAD");
        String refused = "apart 0 0: BAD, apart 2 2: BAD, apart -1 0: BAD, apart 0 -1: BAD, apart 3 0: BAD, apart 0 3: BAD, apart 3 3: BAD, apart -1 -1: BAD";
        Scene.unchangedWhenRich(refused);
        Scene.rich().due("apart MIN 0: BAD, apart 0 MAX: BAD, apart 2 0: 0, apart 0 2: 0");
        Scene.of("g1 1 0;c1 1 0;").due("apart 0 0: BAD, apart 0 1: BAD, apart 1 0: BAD");
        Scene.of("g1 1 0;c1 1 0;c1 1 0;").due("apart 0 1: 0, apart 1 0: 0");
        Scene.of("g2 1 00;o0 0 4;c4 1 0;c5 1 0;").due("apart 0 1: 1, apart 1 0: 1");
        Scene.of(LEVEL + "o5 4 4;c4 1 0;c5 1 0;").due("apart 0 1: " + (1 << 29));
        Scene.of(SLOPE + "o0 0 4;c4 1 0;c5 1 0;c5 1 1;").due("apart 0 1: " + ALL_THIRTY + ", apart 1 2: 0, apart 2 0: " + ALL_THIRTY);
        Scene.of("g3 1 010;c1 1 0;c1 1 1;").due("apart 0 1: 2");
        // the way there does not matter, nor does the worth
        Scene.of("g2 2 2110;c1 1 0;c1 99 1;").due("end 0 0 0 2: 11, end 1 0 0 2: 13, apart 0 1: 0");
    }

    private static void rolls() {
        Scene.sentence("ROLLS: the fewest CELLS (of as few the least bits; 3 at most) from which let go all KINDS are told apart; NONE");
        Scene.fresh().due("rolls: 0");
        Scene.of("g1 1 0;").due("rolls: 0");
        Scene.of("g1 1 0;c1 1 0;").due("rolls: 0");
        Scene.of("g1 1 0;c1 1 0;c1 1 0;").due("rolls: NONE");
        Scene.of("g1 1 0;o0 0 1;c1 1 0;c2 1 0;").due("rolls: 1");
        Scene.of("g1 1 0;o0 0 1;c1 1 0;c2 1 0;c3 1 0;").due("rolls: NONE");
        Scene.of(LEVEL + "o5 4 1;c1 1 0;c2 1 0;").due("rolls: " + (1 << 29));
        String three = "o3 4 1;o4 4 2;o5 4 3;c1 1 0;c2 1 0;c3 1 0;c4 1 0;";
        Scene.of(LEVEL + three).due("rolls: " + (7 << 27));
        Scene.of(LEVEL + "o0 0 1;o2 4 4;" + "o4 4 2;o5 4 3;c1 1 0;c2 1 0;c3 1 0;c4 1 0;c5 1 0;").due("rolls: NONE");
        Scene.of("g4 1 0000;o0 0 1;o1 0 2;o2 0 3;c1 1 0;c2 1 0;c3 1 0;c4 1 0;").due("rolls: 7");
        // 0 and 1 together tell all, and are lesser bits, but 2 does it alone
        Scene.of("g6 1 555432;o0 0 1;o1 0 2;o3 0 1;o4 0 2;c1 1 0;c2 1 0;c3 1 0;").due("rolls: 4");
        Scene.of("g4 1 0000;o3 0 1;o1 0 1;c1 1 0;c2 1 0;").due("rolls: 2");
        Scene.of("g4 1 0000;o0 0 1;o1 0 2;o2 0 1;o3 0 2;c1 1 0;c2 1 0;c3 1 0;").due("rolls: 3");
        Scene.of("g4 1 0000;o0 0 2;o1 0 2;o2 0 2;o3 0 1;c1 1 0;c2 1 0;c3 1 0;").due("rolls: 9");
        // least as bits: 2 and 4 are ahead of 0 and 5
        Scene.of("g3 2 301033;o2 0 3;o2 1 1;o1 1 1;c1 1 0;c3 1 1;c2 1 0;c4 1 0;").due("rolls: 20");
        // as all is now, whatever was asked ahead of it
        Scene.of("g3 1 010;c1 1 0;c1 1 1;").due("rolls: 2, sets 0 0 1: 1, rolls: NONE, rain 1: 2, rolls: NONE, undo: 0, rain 0: 20, rolls: 2, cobble 0 0 1: 1, rolls: NONE");
    }
}
