/** The promises of the document by number: ordinary inputs, the edges it names, refusals. */
public final class Promises {
    private static final int UNKNOWN = -1, BAD = -2, LATE = -3, FULL = -4, NONE = -9;
    private static final int LEAST = Integer.MIN_VALUE, GREATEST = Integer.MAX_VALUE;
    private static final String PLAIN = "M9000000000000";
    private static int promise = 0;
    private static int wrong = 0;
    private static int asked = 0;

    private static void due(String call, long got, long want) {
        asked++;
        if (got != want) {
            wrong++;
            System.out.println("promise " + promise + ": " + call + " answered " + got + ", due is " + want);
        }
    }

    private static void write(MapLife x, String text) {
        for (int i = 0; i < text.length(); i++) {
            x.write(text.charAt(i));
        }
    }

    private static MapLife made(String text) {
        MapLife x = new MapLife();
        write(x, text);
        due("map() of " + text, x.map(), (text.length() - 14) / 3);
        return x;
    }

    private static void dueFault(String text, int want) {
        MapLife x = new MapLife();
        write(x, text);
        due("fault() of " + text, x.fault(), want);
        due("map() of " + text, x.map() == LATE ? 1 : 0, want == NONE ? 0 : 1);
    }

    /** All that about() tells, in one line: SIGNS, where, FOOD, HARM, TAKEN, DAY, ERRORS, ACTS. */
    private static void dueState(String when, MapLife x, int... want) {
        for (int i = 0; i < want.length; i++) {
            due("about(" + i + ") " + when, x.about(i), want[i]);
        }
    }

    private static void newObject() {
        promise = 1;
        MapLife x = new MapLife();
        dueState("of a new object", x, 0, 0, 0, 0, 0, 0, 0, 0, 0);
        for (int cell = 0; cell < 12; cell++) {
            for (int what = 0; what < 3; what++) {
                due("cell(" + cell + ", " + what + ")", x.cell(cell, what), 0);
            }
        }
        due("seed(0)", x.seed(0), 0);
        due("again(0)", x.again(0), LATE);
        due("again(1)", x.again(1), LATE);
        due("undo()", x.undo(), LATE);
        // Two objects have nothing in common.
        MapLife y = new MapLife();
        y.draw(3, 3);
        y.write('M');
        due("about(0)", x.about(0), 0);
        due("about(8)", x.about(8), 0);
        due("constants", MapLife.UNKNOWN * 10000 + MapLife.BAD * 1000 + MapLife.LATE * 100
                + MapLife.FULL * 10 + MapLife.NONE, -12349);
    }

    private static void writing() {
        promise = 2;
        MapLife x = new MapLife();
        due("write(-1)", x.write(-1), BAD);
        due("write(256)", x.write(256), BAD);
        due("write(least)", x.write(LEAST), BAD);
        due("write(greatest)", x.write(GREATEST), BAD);
        due("about(8)", x.about(8), 0);
        due("write(0)", x.write(0), 1);
        due("write(255)", x.write(255), 2);
        for (int i = 3; i <= 40; i++) {
            due("write(68)", x.write(68), i);
        }
        due("write(68) to 40 bytes", x.write(68), FULL);
        due("write(256) to 40 bytes", x.write(256), BAD);
        due("about(8)", x.about(8), 40);
        due("fault()", x.fault(), 0);
    }

    private static void wiping() {
        promise = 3;
        MapLife x = new MapLife();
        due("wipe()", x.wipe(), 0);
        write(x, PLAIN + "Db1");
        x.map();
        x.go(3);
        due("wipe()", x.wipe(), 17);
        due("about(8)", x.about(8), 0);
        due("fault()", x.fault(), 0);
        dueState("behind wipe()", x, 1, 1, 9, 0, 2, 1, 2, 1, 0);
        for (int i = 1; i <= 40; i++) {
            x.write(1);
        }
        due("wipe()", x.wipe(), 40);
        due("write(77)", x.write(77), 1);
    }

    private static void faults() {
        promise = 4;
        dueFault("", 0);
        dueFault("m", 0);
        dueFault("D", 0);
        dueFault("M", 1);
        dueFault("M/", 1);
        dueFault("M:", 1);
        dueFault("M0", 2);
        dueFault("M9", 2);
        dueFault("M9/", 2);
        dueFault("M95", 2);
        dueFault("M9004", 5);
        dueFault("M900000000000", 13);
        dueFault("M9000000000005", 13);
        dueFault("M900000000000D", 13);
        dueFault("M0012340123401", NONE);
        dueFault("M9444444444444", NONE);
        dueFault(PLAIN + "0", 14);
        dueFault(PLAIN + "M", 14);
        dueFault(PLAIN + "E", 14);
        dueFault(PLAIN + "D", 15);
        dueFault(PLAIN + "D`", 15);
        dueFault(PLAIN + "Dm", 15);
        dueFault(PLAIN + "DA", 15);
        dueFault(PLAIN + "Da", 16);
        dueFault(PLAIN + "Dl", 16);
        dueFault(PLAIN + "Da0", 16);
        dueFault(PLAIN + "Da5", 16);
        dueFault(PLAIN + "Da1", NONE);
        dueFault(PLAIN + "Dl4", NONE);
        dueFault(PLAIN + "Da1d", 17);
        dueFault(PLAIN + "Da1D", 18);
        dueFault(PLAIN + "Da1Da", 18);
        dueFault(PLAIN + "Da1Db2Dc3Db2", 24);
        dueFault(PLAIN + "Da1Db2Dc3Da", 24);
        String eight = PLAIN + "Da1Db2Dc3Dd4De1Df2Dg3Dh4";
        dueFault(eight, NONE);
        dueFault(eight + "D", 38);
        dueFault(eight + "Di", 38);
        dueFault(eight + "x", 38);
        dueFault("MM" + eight, 1);
        dueFault(PLAIN + (char) ('D' + 128), 14);
        MapLife x = new MapLife();
        write(x, PLAIN + "Dx");
        due("fault()", x.fault(), 15);
        due("fault() once more", x.fault(), 15);
        due("about(8)", x.about(8), 16);
    }

    private static void mapping() {
        promise = 5;
        MapLife x = made("M5012304121000Db1De2Df2Dc4Dj1Dg3");
        dueState("behind map()", x, 6, 0, 5, 0, 0, 0, 4 + 16 + 32 + 64 + 512, 0, 32);
        x.seed(7);
        x.go(3);
        x.keep(0);
        x.keep(1);
        due("map() once more", x.map(), 6);
        dueState("behind map() once more", x, 6, 0, 5, 0, 0, 0, 628, 0, 32);
        due("undo()", x.undo(), LATE);
        due("again(0)", x.again(0), LATE);
        due("again(1)", x.again(1), LATE);
        due("seed(1)", x.seed(1), 7);
        x.go(3);
        x.go(1);
        x.wipe();
        due("HARM", x.about(3), 1);
        write(x, "M3444444444444");
        due("map() without SIGNS", x.map(), 0);
        for (int i = 0; i < 12; i++) {
            due("cell(" + i + ", 0) of the other map", x.cell(i, 0), 4);
            due("cell(" + i + ", 1) of the other map", x.cell(i, 1), 0);
        }
        dueState("without SIGNS", x, 0, 0, 3, 0, 0, 0, 0, 0, 14);
        due("cell(11, 0)", x.cell(11, 0), 4);
        due("cell(1, 1)", x.cell(1, 1), 0);
        // What is refused changes nothing.
        x.draw(1, 2);
        x.rest();
        x.keep(1);
        x.write('d');
        due("map() with a FAULT", x.map(), LATE);
        dueState("behind a refused map()", x, 1, 0, 2, 0, 0, 1, 2, 2, 15);
        due("again(1)", x.again(1), 1);
    }

    private static void telling() {
        promise = 6;
        MapLife x = made("M6040000000000Db1De3Df2");
        x.go(3);
        x.go(1);
        x.go(3);
        x.rest();
        dueState("in a year", x, 3, 5, 3, 1, 16 + 32, 4, 2 + 16 + 32, 4, 23);
        due("about(-1)", x.about(-1), BAD);
        due("about(9)", x.about(9), BAD);
        due("about(least)", x.about(LEAST), BAD);
        due("about(greatest)", x.about(GREATEST), BAD);
    }

    private static void cells() {
        promise = 7;
        MapLife x = made("M9012340123401Da1Db1Dc1De4Df1Dg2Dh3Di3");
        int[] land = {0, 1, 2, 3, 4, 0, 1, 2, 3, 4, 0, 1};
        int[] sign = {1, 1, 1, 0, 4, 1, 2, 3, 3, 0, 0, 0};
        int[] good = {1, 3, 1, 0, 0, 1, 1, 0, 1, 0, 0, 0};
        for (int i = 0; i < 12; i++) {
            due("cell(" + i + ", 0)", x.cell(i, 0), land[i]);
            due("cell(" + i + ", 1)", x.cell(i, 1), sign[i]);
            due("cell(" + i + ", 2)", x.cell(i, 2), good[i]);
        }
        x = made("M9234000000000Da2Db3Dc4Dd4");
        due("cell(0, 2)", x.cell(0, 2), 2);
        due("cell(1, 2)", x.cell(1, 2), 1);
        due("cell(2, 2)", x.cell(2, 2), 0);
        due("cell(3, 2)", x.cell(3, 2), 0);
        due("cell(-1, 0)", x.cell(-1, 0), UNKNOWN);
        due("cell(12, 0)", x.cell(12, 0), UNKNOWN);
        due("cell(12, 3)", x.cell(12, 3), UNKNOWN);
        due("cell(least, least)", x.cell(LEAST, LEAST), UNKNOWN);
        due("cell(0, -1)", x.cell(0, -1), BAD);
        due("cell(11, 3)", x.cell(11, 3), BAD);
    }

    private static void going() {
        promise = 8;
        MapLife x = made("M9010040000000Db1Dc4Df1De2Da3");
        due("go(-1)", x.go(-1), BAD);
        due("go(4)", x.go(4), BAD);
        due("go(least)", x.go(LEAST), BAD);
        due("go(0) out of the land", x.go(0), LATE);
        due("go(2) out of the land", x.go(2), LATE);
        dueState("refused", x, 5, 0, 9, 0, 0, 0, 53, 0);
        due("go(3)", x.go(3), 1);
        dueState("on a true SPRING", x, 5, 1, 11, 0, 2, 1, 53, 1);
        due("go(3) into a ROCK by the map", x.go(3), LATE);
        due("go(1) upon a ROCK of the land", x.go(1), 5);
        dueState("on a wrong SPRING", x, 5, 5, 11, 0, 34, 2, 53, 2);
        due("go(1) into a BLANK", x.go(1), LATE);
        due("go(2)", x.go(2), 5);
        dueState("against a ROCK", x, 5, 5, 10, 1, 34, 3, 53, 3);
        due("go(2)", x.go(2), 5);
        dueState("against a ROCK again", x, 5, 5, 9, 2, 34, 4, 53, 4);
        due("go(0) back", x.go(0), 1);
        dueState("where all is TAKEN", x, 5, 1, 8, 2, 34, 5, 53, 5);
        due("go(2) to where he began", x.go(2), 0);
        dueState("where he began", x, 5, 0, 7, 2, 35, 6, 53, 6);
        // A row's end is an end: CELL 3 does not lie left of CELL 4.
        x = made("M9000000000000Dd1De1");
        due("go(1)", x.go(1), 4);
        due("go(2) over the edge", x.go(2), LATE);
        x = made("M9000000000000Db1Dc1Dd1De1Dh1Dl1");
        x.go(3);
        x.go(3);
        due("go(3)", x.go(3), 3);
        due("go(3) over the edge", x.go(3), LATE);
        due("go(1)", x.go(1), 7);
        due("go(1)", x.go(1), 11);
        due("go(1) out of the land", x.go(1), LATE);
        x = made("M1000000000000Db3De4Da3");
        due("go(3)", x.go(3), 1);
        due("about(2)", x.about(2), 0);
        due("go(2) without FOOD", x.go(2), LATE);
        due("go(4) without FOOD", x.go(4), BAD);
        x = made("M1030000000000Db3Da3");
        due("go(3) with the last FOOD", x.go(3), 1);
        due("about(2)", x.about(2), 1);
    }

    private static void resting() {
        promise = 9;
        MapLife x = made("M2000000000000Da1");
        due("rest()", x.rest(), 1);
        dueState("RESTED", x, 1, 0, 1, 0, 0, 1, 1, 1);
        due("rest()", x.rest(), 0);
        due("rest() without FOOD", x.rest(), LATE);
        dueState("without FOOD", x, 1, 0, 0, 0, 0, 2, 1, 2);
    }

    private static void drawing() {
        promise = 10;
        MapLife x = new MapLife();
        due("draw(-1, 1)", x.draw(-1, 1), UNKNOWN);
        due("draw(12, 0)", x.draw(12, 0), UNKNOWN);
        due("draw(least, 9)", x.draw(LEAST, 9), UNKNOWN);
        due("draw(0, 0)", x.draw(0, 0), BAD);
        due("draw(0, 5)", x.draw(0, 5), BAD);
        due("draw(0, -1)", x.draw(0, -1), BAD);
        due("draw(11, 4)", x.draw(11, 4), 1);
        due("cell(11, 1)", x.cell(11, 1), 4);
        due("draw(11, 4)", x.draw(11, 4), LATE);
        due("draw(11, 5)", x.draw(11, 5), BAD);
        due("draw(0, 1) where he is", x.draw(0, 1), 2);
        dueState("DRAWN without FOOD", x, 2, 0, 0, 0, 0, 0, 1 + 2048, 2);
        for (int i = 1; i < 7; i++) {
            due("draw(" + i + ", 2)", x.draw(i, 2), i + 2);
        }
        due("draw(7, 2), the ninth", x.draw(7, 2), FULL);
        due("draw(6, 2)", x.draw(6, 2), LATE);
        due("draw(7, 0)", x.draw(7, 0), BAD);
        due("draw(12, 0)", x.draw(12, 0), UNKNOWN);
        due("about(7)", x.about(7), 8);
        due("cell(7, 1)", x.cell(7, 1), 0);
    }

    private static void rubbing() {
        promise = 11;
        MapLife x = made("M9000000000000Da1Db3");
        due("rub(-1)", x.rub(-1), UNKNOWN);
        due("rub(12)", x.rub(12), UNKNOWN);
        due("rub(2) BLANK", x.rub(2), LATE);
        due("rub(0) where he is", x.rub(0), LATE);
        due("about(7)", x.about(7), 0);
        due("rub(1)", x.rub(1), 3);
        dueState("RUBBED OUT", x, 1, 0, 9, 0, 0, 0, 1, 1);
        due("rub(1) again", x.rub(1), LATE);
        due("go(3)", x.go(3), LATE);
        due("draw(1, 2)", x.draw(1, 2), 2);
        due("go(3)", x.go(3), 1);
        due("about(2)", x.about(2), 9);
        due("rub(0)", x.rub(0), 1);
        due("rub(1) where he is", x.rub(1), LATE);
        // TAKEN belongs to the CELL, not to the SIGN that stood there.
        x = made("M9100000000000Da1Db1");
        x.go(3);
        x.go(2);
        due("about(4)", x.about(4), 3);
        x.rub(1);
        due("about(4)", x.about(4), 3);
        x.draw(1, 1);
        x.go(3);
        due("about(2)", x.about(2), 9 - 1 + 1 - 1 + 3 - 1);
    }

    private static void undoing() {
        promise = 12;
        MapLife x = made("M9040000000000Da2Db1De1");
        due("undo()", x.undo(), LATE);
        x.go(1);
        x.go(0);
        x.go(3);
        x.rest();
        x.rub(4);
        x.draw(4, 4);
        dueState("ahead of undo()", x, 3, 0, 7, 1, 17, 4, 19, 6);
        due("undo() of draw", x.undo(), 5);
        dueState("draw undone", x, 2, 0, 7, 1, 17, 4, 3, 5);
        due("undo() of rub", x.undo(), 4);
        dueState("rub undone", x, 3, 0, 7, 1, 17, 4, 19, 4);
        due("cell(4, 1)", x.cell(4, 1), 1);
        due("undo() of rest", x.undo(), 3);
        dueState("rest undone", x, 3, 0, 8, 1, 17, 3, 19, 3);
        due("undo() of go to a ROCK", x.undo(), 2);
        dueState("ROCK undone", x, 3, 0, 9, 0, 17, 2, 19, 2);
        due("undo() of go", x.undo(), 1);
        dueState("go undone", x, 3, 4, 9 - 1 + 1, 0, 16, 1, 19, 1);
        due("undo() of the first", x.undo(), 0);
        dueState("all undone", x, 3, 0, 9, 0, 0, 0, 19, 0);
        due("undo()", x.undo(), LATE);
        // Fourteen ACTS are kept; the fifteenth makes the first one forgotten.
        x = new MapLife();
        for (int i = 0; i < 15; i++) {
            due("act " + i, i % 2 == 0 ? x.draw(i / 2, 1) : x.rub(9), i % 2 == 0 ? i / 2 + 1 : LATE);
        }
        due("about(7)", x.about(7), 8);
        for (int i = 0; i < 6; i++) {
            x.rub(i + 1);
        }
        due("about(7)", x.about(7), 14);
        due("draw(9, 3)", x.draw(9, 3), 3);
        due("draw(10, 3)", x.draw(10, 3), 4);
        due("about(7)", x.about(7), 14);
        for (int i = 13; i >= 0; i--) {
            due("undo()", x.undo(), i);
        }
        due("undo() of the forgotten", x.undo(), LATE);
        due("about(0)", x.about(0), 2);
        due("cell(0, 1)", x.cell(0, 1), 1);
        due("cell(1, 1)", x.cell(1, 1), 1);
    }

    /** Each of fourteen undone ACTS finds the FOOD and place that were ahead of it. */
    private static void undoingMany() {
        MapLife x = made("M9111111111111Da1Db1Dc1Dd1De1Df1Dg1Dh1");
        int[] ways = {3, 3, 3, 4, 1, 2, 2, 4, 2, 0, 4, 3, 4, 1, 0, 2, 1, 4};
        int[] food = new int[ways.length];
        int[] place = new int[ways.length];
        int[] taken = new int[ways.length];
        for (int i = 0; i < ways.length; i++) {
            food[i] = x.about(2);
            place[i] = x.about(1);
            taken[i] = x.about(4);
            due("act " + i, (ways[i] == 4 ? x.rest() : x.go(ways[i])) >= 0 ? 1 : 0, 1);
            due("about(7)", x.about(7), Math.min(14, i + 1));
        }
        for (int i = 13; i >= 0; i--) {
            due("undo()", x.undo(), i);
            dueState("undone to " + (i + 4), x, 8, place[i + 4], food[i + 4], 0, taken[i + 4], i + 4, 0, i);
        }
        due("undo() of the forgotten", x.undo(), LATE);
        x.rest();
        due("undo()", x.undo(), 0);
        due("about(2)", x.about(2), food[4]);
    }

    private static void roads() {
        promise = 13;
        MapLife x = made("M0000004000000Db1Dc2Dd3Df1Dg2De3Dj4");
        due("road(0)", x.road(0, true, false), 0);
        due("road(0) row", x.road(0, false, true), 1);
        due("road(2)", x.road(2, false, false), 2);
        due("road(2) row", x.road(2, false, true), 133);
        due("road(6)", x.road(6, false, false), 3);
        due("road(6) row, by the least WAYS", x.road(6, false, true), 1133);
        due("road(6) truly", x.road(6, true, false), 3);
        due("road(6) row truly", x.road(6, true, true), 1331);
        due("road(5) truly", x.road(5, true, false), NONE);
        due("road(5) row truly", x.road(5, true, true), NONE);
        due("road(5)", x.road(5, false, true), 113);
        due("road(9), a ROCK by the map", x.road(9, false, false), NONE);
        due("road(8), BLANK", x.road(8, false, false), NONE);
        due("road(-1)", x.road(-1, false, false), UNKNOWN);
        due("road(12)", x.road(12, true, true), UNKNOWN);
        due("road(least)", x.road(LEAST, true, true), UNKNOWN);
        // The longest road there can be: eight SIGNS, eight steps.
        x = made("M0000000000000De1Di1Dj1Dk1Dg1Dc1Dd1Dh1");
        due("road(2)", x.road(2, false, false), 6);
        due("road(2) row", x.road(2, true, true), 1113300);
        due("road(3) row", x.road(3, false, true), 11133003);
        due("road(7)", x.road(7, false, false), 6);
        due("road(7) row", x.road(7, false, true), 1113303);
        x = made("M0000000000000De1Di1Dj1Dk1Dg1Dc1Dd1Dl1");
        due("road(11) row", x.road(11, false, true), 111333);
        x = made("M0000000000000Db1Dc1Dd1Dh1Dl1Dk1Dj1Di1");
        due("road(8)", x.road(8, false, false), 8);
        due("road(8) row", x.road(8, false, true), 133311222);
        due("road(8) row truly", x.road(8, true, true), 133311222);
        x = made("M9000000000000Da1Db1Dc1Dg1Dk1");
        x.go(3);
        x.go(3);
        x.go(1);
        x.go(1);
        due("road(0) from afar", x.road(0, false, false), 4);
        due("road(0) from afar, row", x.road(0, true, true), 10022);
        x.rub(0);
        due("road(0), BLANK again", x.road(0, true, true), NONE);
    }

    private static void mosts() {
        promise = 14;
        MapLife x = made("M5012304121000Db1De2Df2Dc4Dj1Dg3");
        due("most(1)", x.most(1, false), 7);
        due("most(1) row", x.most(1, true), 13);
        due("most(2)", x.most(2, false), 6);
        due("most(2) row", x.most(2, true), 131);
        due("most(3)", x.most(3, false), 5);
        due("most(3) row", x.most(3, true), 1311);
        due("most(0)", x.most(0, false), BAD);
        due("most(6)", x.most(6, true), BAD);
        due("most(least)", x.most(LEAST, true), BAD);
        // Four days' way to a true SPRING is worth its price, three days' way is not known yet.
        x = made("M4111111111111De4Db3Dc3Dg1");
        due("most(3)", x.most(3, false), 4 - 3 + 0 + 0 + 3);
        due("most(3) row", x.most(3, true), 1331);
        due("most(2) row", x.most(2, true), 133);
        due("most(2)", x.most(2, false), 2);
        due("most(5)", x.most(5, false), 2);
        due("most(5) row, the least of like ones", x.most(5, true), 133101);
        // FOOD must last: with 2 he can't live 3 DAYS, but upon a SPRING he can.
        x = made("M2000000000000");
        due("most(2)", x.most(2, false), 0);
        due("most(2) row", x.most(2, true), 144);
        due("most(3)", x.most(3, false), NONE);
        due("most(3) row", x.most(3, true), NONE);
        x = made("M2010000000000Db1");
        due("most(3)", x.most(3, false), 2);
        due("most(3) row", x.most(3, true), 1344);
        due("most(5)", x.most(5, false), 0);
        due("most(5) row", x.most(5, true), 134444);
        x.go(3);
        x.draw(0, 1);
        due("down, then up", made("M9100011000000De1Da1").most(2, true), 110);
        due("what is TAKEN gives nothing", x.most(1, false), 4);
        x.undo();
        due("what is TAKEN gives nothing", x.most(1, false), 3);
        due("about(2)", x.about(2), 4);
    }

    private static void mending() {
        promise = 15;
        MapLife x = made("M5012304121000Db1De2Df2Dc4Dj1Dg3");
        due("mends(2)", x.mends(2), 2);
        due("mends(1), all alike: the least", x.mends(1), 2);
        due("mends(0)", x.mends(0), BAD);
        due("mends(5)", x.mends(5), BAD);
        due("about(6)", x.about(6), 628);
        due("no ERRORS", made("M9123000000000Da1Db2Dc3").mends(1), NONE);
        due("but where he is", made("M9000000000000Da1").mends(4), NONE);
        due("one ERROR", made("M9000000000000Da1Dl4").mends(4), 11);
        due("all are NONE", made("M0000010000000De2Df2").mends(1), 4);
        // A SIGN that would be BLANK bars the way: the other one is the better to mend.
        x = made("M9000020000000Db1Df3");
        due("mends(2)", x.mends(2), 5);
        // A HUT that is a SPRING in truth: mended, it gives 3 instead of 0.
        x = made("M9100010000000Da2Db1De3Df1");
        due("mends(1)", x.mends(1), 4);
        // One that is a ROCK in truth: mended, it is no way any more, and saves nothing.
        x = made("M9300400000000Da2Dd3De2");
        due("mends(1)", x.mends(1), 3);
        // What can not be reached within one DAY can within two.
        x = made("M9000333331000Db3Dc3Dd3Dh3De3Di4");
        due("mends(1)", x.mends(1), 1);
        due("mends(2)", x.mends(2), 8);
    }

    private static void drawsNext() {
        promise = 16;
        MapLife x = made("M5012304121000Db1De2Df2Dc4Dj1Dg3");
        due("draws(2)", x.draws(2), 8);
        due("draws(1), all alike: the least", x.draws(1), 3);
        due("draws(0)", x.draws(0), BAD);
        due("draws(4)", x.draws(4), BAD);
        due("about(0)", x.about(0), 6);
        due("all is PLAIN", made("M9000000000000").draws(1), NONE);
        due("all is drawn", made("M9120000000000Da2Db1").draws(3), NONE);
        due("only ROCKS", made("M9000000000044").draws(1), 10);
        due("where he is", made("M9100000000000").draws(1), 0);
        due("a SPRING beside him", made("M9110020000000").draws(1), 1);
        due("a WOOD below him", made("M9103020000000").draws(1), 4);
        due("all are NONE", made("M0001020000000").draws(3), 2);
        x = made("M9111111111111Db1Dc1Dd1De1Df1Dg1Dh1");
        due("draws(1) with 7 SIGNS", x.draws(1), 0);
        x.draw(11, 4);
        due("draws(1) with 8 SIGNS", x.draws(1), NONE);
        due("draws(0) with 8 SIGNS", x.draws(0), BAD);
    }

    private static void judging() {
        promise = 17;
        MapLife x = made("M3040000000000Db1De1Da3Df3");
        due("judge(1, 4)", x.judge(1, 4), NONE);
        due("judge(1, 0)", x.judge(1, 0), 0);
        due("judge(1, 1)", x.judge(1, 1), NONE);
        due("judge(1, 3), HARM", x.judge(1, 3), 0);
        due("judge(2, 10)", x.judge(2, 10), NONE);
        due("judge(2, 1), that is 01", x.judge(2, 1), 0);
        due("judge(3, 130)", x.judge(3, 130), 2);
        due("judge(3, 103)", x.judge(3, 103), 2);
        due("judge(3, 444)", x.judge(3, 444), NONE);
        due("judge(4, 4444), without FOOD", x.judge(4, 4444), 3);
        due("judge(6, 131444)", x.judge(6, 131444), 2);
        due("judge(6, 132444)", x.judge(6, 132444), 4);
        due("judge(6, 444444)", x.judge(6, 444444), 3);
        due("judge(0, 0)", x.judge(0, 0), BAD);
        due("judge(7, 4444444)", x.judge(7, 4444444), BAD);
        due("judge(1, 5)", x.judge(1, 5), BAD);
        due("judge(1, -1)", x.judge(1, -1), BAD);
        due("judge(1, 10)", x.judge(1, 10), BAD);
        due("judge(2, 50)", x.judge(2, 50), BAD);
        due("judge(2, 100)", x.judge(2, 100), BAD);
        due("judge(6, 1000000)", x.judge(6, 1000000), BAD);
        due("judge(6, greatest)", x.judge(6, GREATEST), BAD);
        due("judge(6, least)", x.judge(6, LEAST), BAD);
        due("judge(least, 0)", x.judge(LEAST, 0), BAD);
        // HARM that was there ahead of the row is none of its own.
        x.go(3);
        due("about(3)", x.about(3), 1);
        due("judge(1, 4)", x.judge(1, 4), NONE);
    }

    private static void starting() {
        promise = 18;
        MapLife x = made("M5012304121000Db1De2Df2Dc4Dj1Dg3");
        due("starts(1, 4, 4)", x.starts(1, 4, 4), 594);
        due("starts(1, 4, 5)", x.starts(1, 4, 5), 0);
        // From CELL 9 up is a ROCK: HARM, but the row can be. From 6 to the left too.
        due("starts(1, 0, 4)", x.starts(1, 0, 4), 512);
        due("starts(1, 2, 4)", x.starts(1, 2, 4), 64);
        due("starts(1, 0, 30)", x.starts(1, 0, 30), 0);
        due("starts(1, 0, 31)", x.starts(1, 0, 31), BAD);
        due("starts(1, 0, -1)", x.starts(1, 0, -1), BAD);
        due("starts(0, 0, 0)", x.starts(0, 0, 0), BAD);
        due("starts(6, 0, 0)", x.starts(6, 0, 0), BAD);
        due("starts(2, 15, 0)", x.starts(2, 15, 0), BAD);
        due("starts(2, 111, 0)", x.starts(2, 111, 0), BAD);
        due("starts(2, -1, 0)", x.starts(2, -1, 0), BAD);
        // He comes back to where he began, and takes what is there; what was TAKEN is not.
        x = made("M6110000000000Da1Db1Dc1");
        due("starts(2, 32, 10)", x.starts(2, 32, 10), 1);
        due("starts(2, 32, 8)", x.starts(2, 32, 8), 2);
        due("starts(2, 22, 10)", x.starts(2, 22, 10), 4);
        x.go(3);
        x.rest();
        x.rest();
        due("about(2)", x.about(2), 6);
        due("starts(2, 22, 10)", x.starts(2, 22, 10), 4);
        due("starts(1, 2, 8)", x.starts(1, 2, 8), 6);
        due("starts(5, 44444, 1)", x.starts(5, 44444, 1), 7);
        x.rest();
        x.rest();
        due("starts(5, 44444, 0)", x.starts(5, 44444, 0), 0);
        due("where he is stays", x.about(1), 1);
    }

    private static void dueShare(MapLife x, int cell, int above, int below) {
        due("share(" + cell + ", true)", x.share(cell, true), above);
        due("share(" + cell + ", false)", x.share(cell, false), below);
    }

    private static void sharing() {
        promise = 19;
        MapLife x = made("M5010010000000Db1De2");
        // Alone: 3 + 3 = 6 by the SPRING, 3 + 1 = 4 by the WOOD; both: 6, for there is no way on.
        dueShare(x, 1, 5, 2);
        dueShare(x, 4, 1, 2);
        due("share(0)", x.share(0, true), LATE);
        due("share(12)", x.share(12, true), UNKNOWN);
        due("share(-1)", x.share(-1, false), UNKNOWN);
        dueShare(made("M5010000000000Db1"), 1, 3, 1);
        dueShare(made("M5010000000000Dl1"), 11, 0, 1);
        // NONE is 0: with FOOD 1 nobody lives two DAYS without the SPRING.
        dueShare(made("M1010000000000Db1"), 1, 2, 1);
        dueShare(made("M0010000000000Db1"), 1, 0, 1);
        // A chain of two: the WOOD behind the SPRING is worth nothing till it has come.
        x = made("M5012000000000Db1Dc2");
        dueShare(x, 1, 4, 1);
        dueShare(x, 2, 1, 1);
        // Three of them: e (1 alone), b and c as ahead of this.
        x = made("M5012000000000Db1Dc2De2");
        // b: alone 3; behind c 5; behind e 2; behind both 4. (2 * 3 + 5 + 2 + 2 * 4) / 6.
        dueShare(x, 1, 7, 2);
        dueShare(x, 2, 1, 1);
        dueShare(x, 4, 1, 2);
        // CELL 0, that he left for the SPRING beside it, counts like the others.
        x = made("M5110000000000Da1Db1");
        x.go(3);
        dueShare(x, 0, 3, 1);
        dueShare(x, 1, 0, 1);
        x = made("M9111111111111Db1Dc2Dd3De1Df2Dg3Dh1Di2");
        int sum = 0;
        int below = 5040;
        for (int i = 1; i < 9; i++) {
            sum += x.share(i, true) * (below / x.share(i, false));
        }
        due("all shares in all", sum, below * (x.most(2, false) - 7));
    }

    private static void atRest() {
        promise = 20;
        MapLife x = new MapLife();
        due("rests(0) of 0 SIGNS", x.rests(0), 1);
        due("rests(1) of 0 SIGNS", x.rests(1), 0);
        int[] count = {1, 0, 0, 0, 0, 0, 0, 0, 0};
        for (int i = 1; i <= 8; i++) {
            x.draw(i, 1);
            due("rests(0) of " + i + " SIGNS", x.rests(0), count[i]);
            due("rests(1) of " + i + " SIGNS", x.rests(1), count[i] == 0 ? NONE : 0);
        }
        due("rests(-1)", x.rests(-1), BAD);
        due("rests(2)", x.rests(2), BAD);
        due("rests(least)", x.rests(LEAST), BAD);
    }

    private static void dueChance(MapLife x, int[] call, int above, int below) {
        String name = "chance(" + call[0] + ", " + call[1] + ", " + call[2] + ", " + call[3] + ")";
        due(name + " upper", x.chance(call[0], call[1], call[2], call[3], true), above);
        due(name + " lower", x.chance(call[0], call[1], call[2], call[3], false), below);
    }

    private static void chances() {
        promise = 21;
        MapLife x = made("M9010004000000Db1De1Df1Dc4Da1Di3");
        dueChance(x, new int[] {1, 3, 0, 7}, 1, 1);
        dueChance(x, new int[] {1, 1, 0, 7}, 3, 10);
        dueChance(x, new int[] {1, 1, 1, 7}, 1, 1);
        // Against a ROCK of the LAND he comes into no CELL; a REST is no coming either.
        dueChance(x, new int[] {2, 13, 0, 7}, 3, 10);
        dueChance(x, new int[] {2, 14, 0, 7}, 3, 10);
        dueChance(x, new int[] {2, 10, 0, 5}, 1, 4);
        dueChance(x, new int[] {2, 10, 1, 5}, 3, 4);
        dueChance(x, new int[] {2, 10, 2, 5}, 1, 1);
        dueChance(x, new int[] {2, 10, 1, 3}, 91, 100);
        dueChance(x, new int[] {3, 101, 1, 2}, 112, 125);
        dueChance(x, new int[] {5, 10101, 2, 1}, 12393, 12500);
        dueChance(x, new int[] {5, 10101, 0, 1}, 59049, 100000);
        dueChance(x, new int[] {5, 10101, 5, 10}, 1, 1);
        dueChance(x, new int[] {5, 10101, 4, 10}, 0, 1);
        dueChance(x, new int[] {5, 10101, 0, 0}, 1, 1);
        dueChance(x, new int[] {2, 33, 5, 0}, 0, 1);
        dueChance(x, new int[] {1, 0, 5, 0}, 0, 1);
        int[][] bad = {{0, 0, 0, 0}, {6, 0, 0, 0}, {1, 5, 0, 0}, {1, 10, 0, 0}, {1, -1, 0, 0},
            {1, 4, -1, 0}, {1, 4, 6, 0}, {1, 4, 0, -1}, {1, 4, 0, 11}, {LEAST, LEAST, LEAST, LEAST}};
        for (int[] call : bad) {
            dueChance(x, call, BAD, BAD);
        }
        due("about(5)", x.about(5), 0);
    }

    private static void seeding() {
        promise = 22;
        MapLife x = new MapLife();
        due("seed", x.seed(Long.MIN_VALUE), 0);
        due("seed", x.seed(Long.MAX_VALUE), Long.MIN_VALUE);
        due("seed", x.seed(-1), Long.MAX_VALUE);
        due("seed", x.seed(0), -1);
    }

    private static void manyYears() {
        promise = 23;
        MapLife x = made("M9000000000000Db1De1");
        due("years(0)", x.years(0), BAD);
        due("years(31)", x.years(31), BAD);
        due("years(least)", x.years(LEAST), BAD);
        due("seed(0)", x.seed(0), 0);
        // 0 becomes 1442695040888963407: its upper 31 bits are 167953082, by 5 left 2: no WAY here.
        due("years(1)", x.years(1), 9);
        due("seed(0)", x.seed(0), 1442695040888963407L);
        long v = 0;
        for (int i = 0; i < 30; i++) {
            v = v * 6364136223846793005L + 1442695040888963407L;
        }
        x.years(30);
        due("seed(2)", x.seed(2), v);
        dueState("behind years", x, 2, 0, 9, 0, 0, 0, 18, 0);
        yearsByGoing();
        // HARM that was there ahead is none of these years'. From CELL 0, 1 and 3 lead to ROCKS.
        x = made("M9444444444444Db1De1Da1");
        x.go(3);
        x.seed(5);
        long y = 5;
        int food = 8;
        int harm = 0;
        for (int i = 0; i < 30 && food > 0; i++) {
            y = y * 6364136223846793005L + 1442695040888963407L;
            int way = (int) ((y >>> 33) % 5);
            food -= way == 1 || way == 3 || way == 4 ? 1 : 0;
            harm += way == 1 || way == 3 ? 1 : 0;
        }
        due("years(30) among ROCKS", x.years(30), food + 100 * harm);
        due("about(3)", x.about(3), 1);
    }

    /** Years told ahead are as if he went them, a WAY or REST a time. */
    private static void yearsByGoing() {
        int harms = 0;
        for (long first = -20; first < 20; first++) {
            MapLife x = made("M9123401234012Da1Db2Dc2De1Df1Dg3Di1Dj2");
            x.seed(first);
            int told = x.years(11);
            long v = first;
            for (int i = 0; i < 11; i++) {
                v = v * 6364136223846793005L + 1442695040888963407L;
                int way = (int) ((v >>> 33) % 5);
                if (way == 4) {
                    x.rest();
                } else {
                    x.go(way);
                }
            }
            due("years(11) by " + first, told, x.about(2) + 100 * x.about(3));
            harms += x.about(3);
        }
        due("HARM is in them", harms > 0 ? 1 : 0, 1);
    }

    private static void keeping() {
        promise = 24;
        MapLife x = made("M9000000000000Db1De1");
        due("keep(-1)", x.keep(-1), UNKNOWN);
        due("keep(2)", x.keep(2), UNKNOWN);
        due("keep(least)", x.keep(LEAST), UNKNOWN);
        due("keep(0)", x.keep(0), 0);
        x.go(3);
        x.rest();
        due("keep(1)", x.keep(1), 2);
        due("ACTS stay", x.about(7), 2);
        due("undo()", x.undo(), 1);
        due("again(1)", x.again(1), 2);
        due("again(0)", x.again(0), 0);
        due("keep(1) over the first", x.keep(1), 0);
        x.rest();
        due("again(1)", x.again(1), 0);
        due("keep() of a new object", new MapLife().keep(1), 0);
    }

    private static void goingOn() {
        promise = 25;
        MapLife x = made("M9040000000000Da1Db1De1");
        due("again(-1)", x.again(-1), UNKNOWN);
        due("again(2)", x.again(2), UNKNOWN);
        due("again(0)", x.again(0), LATE);
        x.go(3);
        x.go(1);
        x.draw(8, 4);
        due("about(7)", x.about(7), 3);
        due("again(1) of none kept", x.again(1), LATE);
        due("about(7)", x.about(7), 3);
        due("keep(1)", x.keep(1), 2);
        due("again(0) of none kept", x.again(0), LATE);
        x.go(0);
        x.rub(1);
        x.rub(8);
        x.seed(3);
        x.write(3);
        due("again(1)", x.again(1), 2);
        dueState("gone on from", x, 4, 4, 8, 1, 16, 2, 1 + 2 + 16 + 256, 0, 24);
        due("cell(8, 1)", x.cell(8, 1), 4);
        due("undo()", x.undo(), LATE);
        due("seed(0)", x.seed(0), 3);
        x.rest();
        due("again(1) once more", x.again(1), 2);
        due("about(2)", x.about(2), 8);
    }

    public static void main(String[] args) {
        newObject();
        writing();
        wiping();
        faults();
        mapping();
        telling();
        cells();
        going();
        resting();
        drawing();
        rubbing();
        undoing();
        undoingMany();
        roads();
        mosts();
        mending();
        drawsNext();
        judging();
        starting();
        sharing();
        atRest();
        chances();
        seeding();
        manyYears();
        keeping();
        goingOn();
        System.out.println(asked + " answers asked, " + wrong + " not as due");
        if (wrong != 0) {
            System.exit(1);
        }
    }
}
