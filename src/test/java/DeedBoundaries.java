/** The boundaries of cells, kinds and what is done: Terms 2 and promises 5 to 13. */
public final class DeedBoundaries {
    /** A few deeds, so that one more makes none of them lost. */
    private static final String SOME_DEEDS = "lets 0 1 0, lets 1 0 0, sets 1 1 1, cobble 0 1 1, keep 0, lets 2 2 0";

    public static void main(String[] args) {
        cells();
        waysShut();
        kinds();
        lets();
        lie();
        mostCoins();
        planksAtMost();
        sidesForPlanks();
        takes();
        cobbles();
        coinsStay();
        sweep();
        undo();
        undoneIsAsAhead();
        tenAreKnown();
        refusedIsNotKnown();
        now();
        Scene.finish();
    }

    private static void cells() {
        Scene.sentence("cell: Of a CELL: 0 HEIGHT .. 6 WAYS that are shut. BAD");
        Scene.edges("cell", "BAD", 0, 2, 0, 1, 0, 6);
        Scene.of("g3 2 432 310;").due("cell 2 1 0: 0, cell 2 1 1: 0, cell 2 1 2: 0, cell 2 1 3: 0, cell 2 1 4: 0, cell 2 1 5: 0");
        Scene.of("g1 1 9;").due("cell 0 0 0: 9, cell 0 0 7: BAD, cell 1 0 0: BAD, cell 0 1 0: BAD, cell 0 0 6: 15");
        // by the coins that are there: none of the numbers is another one's
        Scene.rich().due("cell 1 1 0: 1, cell 1 1 1: 3, cell 1 1 2: 1, cell 1 1 3: 20, cell 1 1 4: 2, cell 1 1 5: 10, cell 1 1 6: 4");
        Scene.unchangedWhenRich("cell 0 0 0: 4, cell 1 1 1: 3, cell 2 1 2: 1, cell 2 1 3: 7, cell 1 1 4: 2, cell 1 1 5: 10, cell 0 0 6: 15");
    }

    private static void waysShut() {
        Scene.sentence("6 WAYS that are shut by KERBS, PLANKS (bits; the edge, too)");
        Scene middle = Scene.of("g3 3 000000000;k1 1 3;").due("cell 1 1 6: 8");
        middle.due("sets 1 1 0: 1, cell 1 1 6: 9, sets 1 1 1: 2, cell 1 1 6: 11, sets 1 1 2: 3, cell 1 1 6: 15");
        middle.due("cell 1 0 6: 5, cell 2 1 6: 10, cell 1 2 6: 5, cell 0 1 6: 10, cell 0 0 6: 9, cell 2 2 6: 6");
        middle.due("takes 1 1 0: 2, cell 1 1 6: 14, cell 1 0 6: 1, takes 2 1 3: 1, cell 1 1 6: 12, cell 2 1 6: 2");
    }

    private static void kinds() {
        Scene.sentence("kind: Of a KIND: 0 SIZE, 1 WORTH, 2 FORGED. BAD");
        Scene.edges("kind", "BAD", 0, 2, 0, 2);
        Scene.of("g1 1 0;").due("kind 0 0: BAD, kind -1 0: BAD");
        Scene.of("g1 1 0;c9 99 1;").due("kind 0 0: 9, kind 0 1: 99, kind 0 2: 1, kind 1 0: BAD, kind 0 3: BAD, kind 0 -1: BAD");
        Scene.unchangedWhenRich("kind 0 0: 2, kind 1 1: 20, kind 2 2: 1");
    }

    private static void lets() {
        Scene.sentence("lets: LET GO: where it ENDS (as END). BAD");
        Scene.edges("lets", "BAD", 0, 2, 0, 2, 0, 1);
        Scene.of("g1 1 0;").due("lets 0 0 0: BAD, now 0: 0, count 5: 0");
        Scene.of("g6 5 " + "9".repeat(30) + ";o5 4 1;c1 1 0;c2 2 0;").due("lets 0 0 0: 0, lets 0 5 4: 154, lets 1 5 4: 54, lets 0 0 4: 4"
            + ", lets 0 5 0: 50, lets 0 6 4: BAD, lets 0 5 5: BAD, lets 2 5 4: BAD, now 0: 5");
        Scene.of("g1 1 0;o0 0 1;c1 1 0;").due("lets 0 0 0: 100, cell 0 0 4: 1, cell 0 0 2: 0");
    }

    private static void lie() {
        Scene.sentence("where it ends it LIES (as many as come) or is IN the GRATING");
        Scene many = Scene.of("g2 1 01;c9 99 0;");
        many.does("lets 0 1 0, ".repeat(450)).due("cell 0 0 2: 450, cell 0 0 3: 44550, now 1: 450, now 2: 44550, now 0: 450");
        many.due("lets 0 0 0: 0, cell 0 0 2: 451, sweep 0 0: 44649, cell 0 0 2: 0, undo: 9, cell 0 0 3: 44649");
        Scene in = Scene.of("g2 1 01;o0 0 9;c9 99 0;");
        in.does("lets 0 1 0, ".repeat(450)).due("cell 0 0 4: 450, cell 0 0 5: 44550, now 3: 450, now 4: 44550, now 1: 0, sweep 0 0: STATE");
    }

    /** 999 coins are more than an object's 512 calls can let go, but the rule is told. */
    private static void mostCoins() {
        Scene.sentence("lets: STATE: 999 LIE or are IN");
        Scene full = Scene.of("g2 1 01;o0 0 1;c1 1 0;c2 3 0;").does("lets 0 1 0, ".repeat(500)).does("lets 1 1 0, ".repeat(498));
        full.dueLater("now 0: 998, lets 1 1 0: 0, now 0: 999, lets 1 1 0: STATE, lets 0 1 0: STATE, lets 0 0 0: STATE");
        full.due("lets 2 1 0: BAD, lets 0 2 0: BAD, now 0: 999, now 1: 499, now 3: 500, count 5: 10");
        full.due("undo: 9, now 0: 998, lets 0 1 0: 100, lets 0 1 0: STATE, sweep 0 0: 1494, lets 0 1 0: 100, now 0: 502");
    }

    private static void planksAtMost() {
        Scene.sentence("PLANKS (8 at most); sets: FULL: 8");
        String seven = "sets 0 0 1, sets 1 0 1, sets 0 0 2, sets 1 0 2, sets 2 0 2, sets 0 1 1, sets 1 1 1";
        String eight = seven + ", sets 0 1 2";
        Scene full = Scene.of("g3 3 000000000;k2 1 2;c1 1 0;").does(seven).due("now 5: 7, sets 0 1 2: 8, sets 1 1 2: FULL, now 5: 8");
        full.due("sets 2 1 2: STATE, sets 0 1 2: STATE, sets 0 2 0: STATE, sets 0 0 0: STATE, sets 3 0 0: BAD, sets 0 0 4: BAD");
        full.due("count 5: 8, takes 1 1 0: 7, sets 1 1 2: 8, sets 1 1 0: FULL, undo: 9, sets 1 1 0: 8, sets 1 1 2: FULL");
        Scene.unchanged("g3 3 000000000;k2 1 2;c1 1 0;", eight,
            "sets 1 1 2: FULL, sets 1 2 0: FULL, sets 0 2 1: FULL, sets 2 1 2: STATE, sets 0 1 2: STATE, sets 3 0 0: BAD, sets 0 0 -1: BAD");
        Scene.of("g3 3 000000000;").does(eight + ", keep 0, takes 0 0 1, takes 1 0 1").due("sets 1 1 2: 7, back 0: 0, now 5: 8, sets 1 1 2: FULL");
    }

    private static void sidesForPlanks() {
        Scene.sentence("PLANKS: a side of a CELL within the city, that is no KERB, no PLANK yet; sets: BAD; STATE");
        Scene.edges("sets", "BAD", 0, 2, 0, 1, 0, 3);
        Scene.of("g1 1 0;").due("sets 0 0 0: STATE, sets 0 0 1: STATE, sets 0 0 2: STATE, sets 0 0 3: STATE, now 5: 0, count 5: 0");
        Scene.of("g2 2 0000;").due("sets 0 0 0: STATE, sets 0 0 3: STATE, sets 1 0 0: STATE, sets 1 0 1: STATE, sets 0 1 2: STATE"
            + ", sets 0 1 3: STATE, sets 1 1 1: STATE, sets 1 1 2: STATE, sets 0 0 1: 1, sets 0 0 2: 2, sets 1 1 0: 3, sets 1 1 3: 4"
            + ", sets 1 0 3: STATE, sets 0 1 0: STATE, sets 1 0 2: STATE, sets 0 1 1: STATE, sets 0 0 1: STATE, now 5: 4");
        Scene.of("g2 1 00;k0 0 1;").due("sets 0 0 1: STATE, sets 1 0 3: STATE, now 5: 0");
        Scene.unchangedWhenRich("sets 0 0 2: STATE, sets 0 1 0: STATE, sets 0 0 0: STATE, sets 2 1 1: STATE, sets 0 0 1: STATE, sets 1 0 3: STATE");
    }

    private static void takes() {
        Scene.sentence("takes: A PLANK is taken away: how many there are. BAD; STATE: none is there");
        Scene.edges("takes", "BAD", 0, 2, 0, 1, 0, 3);
        Scene.of("g2 2 0000;k0 0 1;").due("takes 0 0 0: STATE, takes 0 0 1: STATE, takes 1 0 3: STATE, takes 0 0 2: STATE, takes 1 1 0: STATE"
            + ", sets 0 0 2: 1, takes 1 0 2: STATE, takes 0 1 0: 0, takes 0 1 0: STATE, takes 0 0 2: STATE, now 5: 0, count 5: 2");
        Scene.unchangedWhenRich("takes 0 0 0: STATE, takes 0 0 2: STATE, takes 1 1 1: STATE, takes 2 1 3: STATE");
        Scene.unchanged("g2 1 00;", "", "takes 0 0 1: STATE, takes 0 0 3: STATE");
    }

    private static void cobbles() {
        Scene.sentence("COBBLES: the HEIGHT of a CELL becomes one more or one less (0 .. 9); cobble: BAD; STATE: it would not be 0 .. 9");
        Scene.edges("cobble", "BAD", 0, 2, 0, 1, 0, 1);
        Scene.of("g2 1 19;").due("cobble 0 0 0: 0, cobble 0 0 0: STATE, cell 0 0 0: 0, cobble 0 0 1: 1, cobble 1 0 1: STATE, cell 1 0 0: 9"
            + ", cobble 1 0 0: 8, cobble 1 0 1: 9, cobble 1 0 1: STATE, count 5: 4, cell 0 0 0: 1");
        Scene.unchanged("g2 1 09;c1 1 0;", "lets 0 1 0, keep 0", "cobble 0 0 0: STATE, cobble 1 0 1: STATE, cobble 0 0 2: BAD, cobble 0 0 -1: BAD");
        Scene climb = Scene.of("g1 1 0;");
        for (int height = 1; height <= 9; height++) {
            climb.due("cobble 0 0 1: " + height);
        }
        climb.due("cobble 0 0 1: STATE");
        for (int height = 8; height >= 0; height--) {
            climb.due("cobble 0 0 0: " + height);
        }
        climb.due("cobble 0 0 0: STATE, count 5: 10");
    }

    private static void coinsStay() {
        Scene.sentence("coins that LIE stay");
        Scene.of("g3 1 101;o2 0 1;c1 4 0;c2 5 0;").does("lets 1 0 0, lets 1 0 0, lets 0 2 0").due("cell 1 0 2: 2, cobble 1 0 1: 1, cobble 1 0 1: 2"
            + ", cell 1 0 2: 2, cell 1 0 3: 10, cell 2 0 4: 1, end 1 1 0 0: 20, cobble 2 0 0: 0, cell 1 0 2: 2, now 1: 2, now 3: 1");
        Scene.of("g2 1 01;c1 4 0;").does("lets 0 1 0, sets 0 0 1, lets 0 1 0, takes 0 0 1").due("cell 1 0 2: 1, cell 0 0 2: 1");
    }

    private static void sweep() {
        Scene.sentence("SWEPT: all that LIE on a CELL are gone; so many WORTH; sweep: BAD; STATE: nothing LIES there");
        Scene.edges("sweep", "BAD", 0, 2, 0, 1);
        Scene.of("g1 1 0;c1 1 0;").due("sweep 0 0: STATE, lets 0 0 0: 0, sweep 0 0: 1, sweep 0 0: STATE, now 0: 0, count 5: 2");
        Scene.of("g2 1 00;o0 0 1;c1 7 0;c2 99 0;").does("lets 0 0 0, lets 1 0 0, lets 1 0 0, lets 0 1 0").due("sweep 0 0: 198, cell 0 0 4: 1"
            + ", cell 0 0 5: 7, cell 0 0 2: 0, cell 0 0 3: 0, cell 1 0 2: 1, sweep 0 0: STATE, sweep 1 0: 7, now 1: 0, now 3: 1");
        Scene.unchanged("g2 1 00;o0 0 1;c1 7 0;", "lets 0 0 0, keep 0, lets 0 1 0", "sweep 0 0: STATE, sweep 2 0: BAD, sweep 0 1: BAD");
    }

    private static void undo() {
        Scene.sentence("undo: UNDONE: how many more may be. STATE: none");
        Scene.fresh().due("undo: STATE, count 5: 0");
        Scene.of("g1 1 5;c1 1 0;").due("undo: STATE, cobble 0 0 1: 6, undo: 0, undo: STATE, cell 0 0 0: 5");
        Scene.unchanged("g2 1 34;c1 1 0;", "keep 0, saw 0 0 0, mark 0 0 0, type 103", "undo: STATE");
        // what is undone can't be undone itself
        Scene.of("g1 1 5;").does("cobble 0 0 1, cobble 0 0 1, cobble 0 0 1").due("undo: 2, undo: 1, cell 0 0 0: 6, cobble 0 0 0: 5, undo: 1, undo: 0, cell 0 0 0: 5");
    }

    private static void undoneIsAsAhead() {
        Scene.sentence("UNDONE: the latest LET GO, PLANK set or taken, COBBLE, SWEPT: all is as ahead of it");
        String[] deeds = {"lets 1 0 0", "lets 0 1 1", "sets 0 0 1", "sets 2 1 0", "takes 1 1 1", "takes 2 1 3", "cobble 0 0 1",
            "cobble 0 0 0", "sweep 2 1"};
        for (String deed : deeds) {
            Scene.same(Scene.RICH_CITY, SOME_DEEDS, deed + ", undo", SOME_DEEDS);
            Scene.of(Scene.RICH_CITY).does(SOME_DEEDS + ", " + deed).due("count 5: 6, undo: 5");
        }
        Scene.same(Scene.RICH_CITY, SOME_DEEDS, String.join(", ", "lets 1 0 0", "sweep 2 1", "sets 0 0 1", "cobble 2 1 1", "undo", "undo", "undo", "undo"), SOME_DEEDS);
    }

    private static void tenAreKnown() {
        Scene.sentence("(10 are known, older ones are lost)");
        String[] ahead = {"", "", "", "sets 0 0 1, lets 1 1 0", "sets 0 0 1"};
        String[] oldest = {"lets 0 1 0", "sets 0 0 1", "cobble 0 0 1", "sweep 1 0", "takes 1 0 3"};
        String[] before = {"cell 0 0 2: 0", "now 5: 0", "cell 0 0 0: 0", "cell 1 0 2: 1", "now 5: 1"};
        String[] after = {"cell 0 0 2: 1", "now 5: 1", "cell 0 0 0: 1", "cell 1 0 2: 0", "now 5: 0"};
        // the last two cells are apart from the others by kerbs, and the later deeds are there alone
        String city = "g2 2 0199;k0 0 2;k1 0 2;k0 1 1;c1 1 0;c1 2 1;";
        String nine = "cobble 0 1 0, cobble 1 1 0, lets 0 0 1, sweep 0 1, lets 0 1 1, cobble 0 1 0, lets 1 0 1, sweep 1 1, cobble 0 1 1";
        String asThen = ", cell 0 1 0: 9, cell 1 1 0: 9, cell 0 1 2: 0, cell 1 1 2: 0, cell 0 1 3: 0, cell 1 1 3: 0";
        for (int at = 0; at < oldest.length; at++) {
            Scene known = Scene.of(city).does(ahead[at]).does(oldest[at] + ", " + nine).due("count 5: 10, " + after[at]);
            Scene lost = Scene.of(city).does(ahead[at]).does(oldest[at] + ", " + nine + ", cobble 1 1 1").due("count 5: 10, " + after[at]);
            for (int left = 9; left >= 0; left--) {
                known.due("undo: " + left);
                lost.due("undo: " + left);
            }
            known.due("undo: STATE, " + before[at] + asThen);
            lost.due("undo: STATE, " + after[at] + asThen);
        }
        Scene.of("g1 1 0;").does("cobble 0 0 1, ".repeat(9)).due("count 5: 9, cobble 0 0 0: 8, count 5: 10, cobble 0 0 1: 9, count 5: 10");
        // each with its own worth, when others were lost ahead of them
        Scene worths = Scene.of("g2 1 00;o1 0 1;c1 3 0;c1 50 0;c2 99 0;").does("lets 2 0 0, lets 1 0 0, lets 0 0 0, lets 2 1 0, lets 1 1 0, lets 0 1 0, ".repeat(3));
        worths.due("cell 0 0 3: 456, cell 1 0 5: 159, cell 1 0 3: 297, count 5: 10, undo: 9, cell 1 0 5: 156, undo: 8, cell 1 0 5: 106, undo: 7, cell 1 0 3: 198");
        worths.due("undo: 6, cell 0 0 3: 453, undo: 5, cell 0 0 3: 403, undo: 4, cell 0 0 3: 304, undo: 3, cell 1 0 5: 103, undo: 2, cell 1 0 5: 53");
        worths.due("undo: 1, cell 1 0 3: 99, undo: 0, cell 0 0 3: 301, undo: STATE, cell 0 0 3: 301, cell 1 0 5: 53, now 2: 400, now 4: 53");
        Scene again = Scene.of("g1 1 0;").does("cobble 0 0 1, ".repeat(9) + "cobble 0 0 0, cobble 0 0 0, cobble 0 0 0");
        again.due("undo: 9, undo: 8, undo: 7, cell 0 0 0: 9, cobble 0 0 0: 8, count 5: 8").does("undo, ".repeat(7));
        again.due("undo: 0, undo: STATE, cell 0 0 0: 2");
    }

    private static void refusedIsNotKnown() {
        Scene.sentence("Refused, and nothing changes: nothing more may be UNDONE either, nor by what is asked, SEEN or kept");
        Scene.of("g2 1 09;c1 1 0;").does("cobble 0 0 0, cobble 1 0 1, sets 0 0 0, takes 0 0 1, sweep 0 0, lets 1 0 0").due("count 5: 0, undo: STATE");
        Scene.of("g2 1 09;c1 1 0;").does("end 0 1 0 0, planks 0 10 10 0, paved 0 0 0 0, moved 0, saw 0 0 0, forget, mark 4 0 0, keep 0, back 0, clear, city")
            .due("count 5: 0, undo: STATE");
        Scene.of("g2 1 09;c1 1 0;").does("lets 0 1 0, saw 0 0 0, keep 1, end 0 1 0 0, type 32, clear, sweep 1 0").due("count 5: 1, undo: 0, now 0: 0, count 4: 1");
    }

    private static void now() {
        Scene.sentence("now: 0 coins that LIE or are IN .. 5 PLANKS, 6 whether all that was SEEN is SO. BAD");
        Scene.edges("now", "BAD", 0, 6);
        Scene.rich().due("now 0: 4, now 1: 2, now 2: 27, now 3: 2, now 4: 10, now 5: 1");
        Scene.of("g2 2 0000;c1 1 0;").due("now 0: 0, now 1: 0, now 2: 0, now 3: 0, now 4: 0, now 5: 0, now 6: 1");
        // the last cell counts too
        Scene.of("g6 5 " + "0".repeat(30) + ";o5 4 1;c1 3 0;c2 5 0;").does("lets 0 5 4, lets 1 5 4, lets 1 0 0").due("now 0: 3, now 1: 2, now 2: 10, now 3: 1, now 4: 3");
        Scene.unchangedWhenRich("now 0: 4, now 6: 0");
    }
}
