/** The boundaries of kinds of cells, THE TRACE, images, counts, refusals and an object's calls: Terms 4 and promises 25 to 29. */
public final class KindBoundaries {
    public static void main(String[] args) {
        marksTaken();
        cellAndStreet();
        square();
        lane();
        bend();
        lodge();
        trace();
        traceGoesOn();
        imagesTaken();
        imageKeepsNow();
        imageKeepsUndone();
        nothingElse();
        imagesAreGone();
        count();
        firstRefusal();
        lastCall();
        Scene.finish();
    }

    private static void marksTaken() {
        Scene.sentence("mark: MARK (of 0 .. 5). NO: BAD");
        Scene.edges("mark", "NO", 0, 5, 0, 2, 0, 1);
        Scene.fresh().due("mark 0 0 0: NO, mark 5 0 0: NO, trace: 0");
        Scene.of("g1 1 0;").due("mark -1 0 0: NO, mark 6 0 0: NO, mark 0 1 0: NO, mark 0 0 1: NO, mark 0 -1 0: NO, mark 0 0 -1: NO, trace: 0");
    }

    private static void cellAndStreet() {
        Scene.sentence("CELL its HEIGHT. STREET up, and how many KERBS, PLANKS it has on its sides (the city's edge, too)");
        Scene.of("g1 1 0;").due("mark 0 0 0: 0, mark 1 0 0: 4, cobble 0 0 1: 1, mark 0 0 0: 1, mark 1 0 0: 5");
        Scene.of("g1 1 9;").due("mark 0 0 0: 9, mark 1 0 0: 13");
        Scene.of("g3 3 000000000;").due("mark 1 1 1: 0, mark 1 0 0: 2, mark 1 1 0: 1, mark 1 2 2: 2, sets 1 1 0: 1, mark 1 1 1: 1, mark 1 1 0: 2");
        Scene.of("g3 3 000000000;k1 1 0;k1 0 2;").due("mark 1 1 1: 1, sets 1 1 1: 1, sets 1 1 2: 2, sets 1 1 3: 3, mark 1 1 1: 4, mark 1 1 0: 2"
            + ", takes 0 1 1: 2, mark 1 1 1: 3");
    }

    private static void square() {
        Scene.sentence("SQUARE up less how many coins LIE there");
        Scene.of("g1 1 0;c1 99 0;").due("mark 2 0 0: 0, lets 0 0 0: 0, mark 2 0 0: -1, lets 0 0 0: 0, mark 2 0 0: -2, sweep 0 0: 198, mark 2 0 0: 0");
        // those that are IN do not count
        Scene.of("g1 1 9;o0 0 1;c1 99 0;c2 1 0;").does("lets 0 0 0, lets 0 0 0, lets 1 0 0").due("mark 2 0 0: 8, mark 4 0 0: 9");
        Scene.of("g1 1 0;c1 1 0;").does("lets 0 0 0, ".repeat(480)).due("mark 2 0 0: -480, mark 4 0 0: 0");
    }

    private static void lane() {
        Scene.sentence("LANE up times 2");
        Scene.of("g1 1 0;").due("mark 3 0 0: 8");
        Scene.of("g1 1 9;").due("mark 3 0 0: 26");
        Scene.of("g3 3 000000000;c1 1 0;").due("mark 3 1 1: 0, lets 0 1 1: 11, mark 3 1 1: 0");
    }

    private static void bend() {
        Scene.sentence("BEND up, and the WORTH of what LIES there");
        Scene.of("g1 1 0;c1 99 0;c1 1 0;").due("mark 4 0 0: 0, lets 0 0 0: 0, mark 4 0 0: 98, lets 1 0 0: 0, mark 4 0 0: 98, sweep 0 0: 100, mark 4 0 0: 0");
        Scene.of("g1 1 0;o0 0 9;c9 99 0;").due("lets 0 0 0: 100, mark 4 0 0: 0, mark 2 0 0: 0");
    }

    private static void lodge() {
        Scene.sentence("LODGE up, and the SIZE of its GRATING (0: none)");
        Scene.of("g2 1 09;o1 0 9;").due("mark 5 0 0: 0, mark 5 1 0: 18");
        Scene.of("g2 1 09;o0 0 1;").due("mark 5 0 0: 1, mark 5 1 0: 9");
    }

    private static void trace() {
        Scene.sentence("numbers in brackets come to THE TRACE as often as mark() asks that body");
        int[] asked = {1, 11, 101, 1011, 10101, 100001};
        for (int of = 0; of <= 5; of++) {
            Scene.fresh().types("g1 1 3;").due("city: 1, trace: 0, mark " + of + " 0 0: " + new int[] {3, 7, 3, 14, 3, 3}[of]
                + ", trace: " + asked[of] + ", trace: " + asked[of] + ", mark " + of + " 1 0: NO, trace: " + asked[of]);
        }
        Scene.of("g1 1 3;").does("mark 5 0 0, ".repeat(490)).due("trace: 49000490");
        Scene.of("g1 1 3;").does("mark 0 0 0, mark 1 0 0, mark 2 0 0, mark 3 0 0, mark 4 0 0, mark 5 0 0").due("trace: 111226");
    }

    private static void traceGoesOn() {
        Scene.sentence("THE TRACE is what mark() asked: no other call changes it");
        Scene.rich().due("trace: 1011, undo: 9, trace: 1011, back 0: 2, trace: 1011, clear: 7, city: 0, trace: 1011");
        Scene.same(Scene.RICH_CITY, Scene.RICH_DEEDS.replace("mark 3 0 0, ", ""), "mark 3 0 0: 16", Scene.RICH_DEEDS);
    }

    private static void imagesTaken() {
        Scene.sentence("IMAGES 0, 1; keep: BAD; back: BAD; STATE: none was kept");
        Scene.edges("keep", "BAD", 0, 1);
        Scene.edges("back", "BAD", 0, 1);
        Scene.fresh().due("back 0: STATE, back 1: STATE, keep 2: BAD, keep -1: BAD, back 2: BAD, back -1: BAD, keep 0: 0, back 0: 0, back 1: STATE, keep 1: 0, back 1: 0");
        String deeds = "lets 0 1 0, keep 1, cobble 0 0 1, saw 0 0 0, type 32";
        Scene.unchanged("g2 1 01;c1 1 0;", deeds, "back 0: STATE, back 2: BAD, back -1: BAD, keep 2: BAD, keep -1: BAD, back MAX: BAD, keep MIN: BAD");
        // one of both is kept or taken back alone
        Scene.of("g1 1 0;c1 1 0;").due("keep 0: 0, lets 0 0 0: 0, keep 1: 1, lets 0 0 0: 0, back 0: 0, back 1: 1, back 0: 0, lets 0 0 0: 0"
            + ", lets 0 0 0: 0, keep 0: 2, back 1: 1, back 0: 2");
    }

    private static void imageKeepsNow() {
        Scene.sentence("IMAGES keep NOW (HEIGHTS, PLANKS, what LIES where, is IN); keep, back: coins that LIE");
        Scene.same(Scene.RICH_CITY, Scene.RICH_DEEDS, "keep 0: 2, sweep 2 1: 7, sweep 1 1: 20, takes 0 0 1: 0, sets 2 1 0: 1, cobble 0 0 0: 3, cobble 1 1 1: 2, lets 0 1 1: 111, back 0: 2",
            Scene.RICH_DEEDS + ", keep 0");
        Scene.of("g1 1 0;o0 0 1;c1 5 0;c2 7 0;").due("lets 0 0 0: 100, keep 0: 0, lets 1 0 0: 0, keep 1: 1, lets 0 0 0: 100, back 0: 0, now 3: 1"
            + ", now 4: 5, now 1: 0, back 1: 1, now 3: 1, now 1: 1, now 2: 7");
        // an image stays as it was kept when what was taken from it changes
        Scene.of("g1 1 5;c1 1 0;").due("keep 0: 0, cobble 0 0 1: 6, back 0: 0, cobble 0 0 0: 4, lets 0 0 0: 0, back 0: 0, cell 0 0 0: 5, now 0: 0, count 5: 0");
    }

    private static void imageKeepsUndone() {
        Scene.sentence("IMAGES keep what may be UNDONE");
        Scene.of("g1 1 5;").does("cobble 0 0 1, cobble 0 0 1, keep 0, undo, undo").due("count 5: 0, undo: STATE, back 0: 0, count 5: 2, cell 0 0 0: 7, undo: 1, cell 0 0 0: 6");
        Scene.of("g1 1 5;").does("keep 0, cobble 0 0 1, cobble 0 0 1").due("count 5: 2, back 0: 0, count 5: 0, undo: STATE, cell 0 0 0: 5");
        Scene full = Scene.of("g2 1 05;").does("cobble 0 0 1, ".repeat(9) + "cobble 1 0 1, keep 1" + ", cobble 1 0 0".repeat(4)).due("count 5: 10, back 1: 0, count 5: 10");
        full.does("undo, ".repeat(9)).due("count 5: 1, undo: 0, undo: STATE, cell 0 0 0: 0, cell 1 0 0: 5");
    }

    private static void nothingElse() {
        Scene.sentence("IMAGES keep NOW; nothing else");
        Scene.of("g2 1 01;c1 1 0;").due("keep 0: 0, saw 0 0 0: 1, mark 0 0 0: 0, type 103: 1, keep 1: 0, back 0: 0, count 4: 1, trace: 1, count 6: 1, back 1: 0, forget: 1"
            + ", clear: 1, back 1: 0, count 4: 0, count 6: 0, trace: 1");
    }

    private static void imagesAreGone() {
        Scene.sentence("Read anew: IMAGES are gone");
        Scene.of("g1 1 5;").does("keep 0, keep 1").types("g1 1 5;").due("city: 1, back 0: STATE, back 1: STATE");
        Scene.of("g1 1 5;").does("keep 0, keep 1").due("city: 0, back 0: STATE, back 1: STATE");
        Scene.of("g1 1 5;").does("keep 0, keep 1, cobble 0 0 1").types("x").due("city: -10, back 0: 0, cell 0 0 0: 5, back 1: 0");
        Scene.fresh().does("keep 0").types("g1 1 5;").due("city: 1, back 0: STATE");
    }

    private static void count() {
        Scene.sentence("count: 0 W, 1 H, 2 GRATINGS, 3 KINDS, 4 SEEN, 5 how many may be UNDONE, 6 bytes of THE TEXT. BAD");
        Scene.edges("count", "BAD", 0, 6);
        Scene.rich().due("count 0: 3, count 1: 2, count 2: 1, count 3: 3, count 4: 2, count 5: 10, count 6: 7");
        Scene.fresh().due("count 0: 0, count 1: 0, count 2: 0, count 3: 0, count 4: 0, count 5: 0, count 6: 0, count 7: BAD, count -1: BAD");
        Scene full = Scene.of("g6 5 " + "5".repeat(30) + ";o0 0 1;o1 0 1;o2 0 1;o3 0 1;" + "c1 1 0;".repeat(5));
        full.does("cobble 0 0 1, cobble 0 0 0, ".repeat(6) + "saw 0 0 0, ".repeat(7)).types(" ".repeat(201));
        full.due("count 0: 6, count 1: 5, count 2: 4, count 3: 5, count 4: 6, count 5: 10, count 6: 200");
    }

    private static void firstRefusal() {
        Scene.sentence("Refused, and nothing changes, the first of these: BAD, STATE (as told), FULL");
        String eight = "sets 0 0 1, sets 1 0 1, sets 0 0 2, sets 1 0 2, sets 2 0 2, sets 0 1 1, sets 1 1 1, sets 0 1 2";
        // each of these is refused by more than one, and the first is told
        Scene.of("g3 3 000000000;").does(eight).due("sets 0 0 1: STATE, sets 0 0 0: STATE, sets -1 0 1: BAD, sets 0 3 1: BAD, sets 0 0 4: BAD, sets 1 1 2: FULL");
        Scene.of("g2 1 09;").due("takes 0 0 4: BAD, takes 2 0 1: BAD, cobble 0 0 2: BAD, cobble 2 0 0: BAD, sweep 2 0: BAD, back 2: BAD");
        Scene.fresh().types(" ".repeat(200)).due("type 256: BAD, type -1: BAD, type 0: FULL");
        Scene.of("g1 1 0;c1 1 0;").does("saw 0 0 0, ".repeat(6)).due("saw 1 0 0: BAD, saw 0 1 0: BAD, saw 0 0 1: BAD, saw 0 0 0: FULL");
    }

    private static void lastCall() {
        Scene.sentence("An object is used for at most 512 calls after it has been made");
        String city = "g2 1 45;c1 1 0;";
        Scene scene = Scene.fresh().types(city).due("city: 2");
        // 15 bytes, city(), these, and the three at the end are 512
        scene.does("lets 0 1 0, undo, ".repeat(245)).does("lets 0 1 0, mark 2 0 0, end 0 1 0 0").due("cell 0 0 2: 1, undo: 0, now 0: 0");
    }
}
