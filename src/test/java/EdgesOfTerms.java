/**
 * The bounds that "What it is" and "Terms" of the document name, a test for each sentence: the last
 * value that is allowed and the first that is not, the empty and the full, the ends of rows.
 */
public final class EdgesOfTerms {
    private static final int UNKNOWN = -1, BAD = -2, LATE = -3, FULL = -4, NONE = -9;
    private static final String PLAINS = "000000000000";
    private static final String EIGHT = "M9" + PLAINS + "Da1Db2Dc3Dd4De1Df2Dg3Dh4";
    private static String sentence = "";
    private static int sentences = 0;
    private static int asked = 0;
    private static int wrong = 0;

    private static void says(String words) {
        sentence = words;
        sentences++;
    }

    private static void due(String call, long got, long want) {
        asked++;
        if (got != want) {
            wrong++;
            System.out.println("\"" + sentence + "\": " + call + " answered " + got + ", due is " + want);
        }
    }

    private static MapLife written(String text) {
        MapLife x = new MapLife();
        for (int i = 0; i < text.length(); i++) {
            due("write(" + (int) text.charAt(i) + ")", x.write(text.charAt(i)), i + 1);
        }
        return x;
    }

    private static MapLife mapped(String text) {
        MapLife x = written(text);
        due("map() of " + text, x.map(), (text.length() - 14) / 3);
        return x;
    }

    private static int faultOf(String text) {
        return written(text).fault();
    }

    private static String sign(int cell, int sort) {
        return "D" + (char) ('a' + cell) + (char) ('0' + sort);
    }

    /** Plain land but for one CELL. */
    private static String landWith(int cell, int sort) {
        return PLAINS.substring(0, cell) + sort + PLAINS.substring(cell + 1);
    }

    private static String with(String text, int place, int letter) {
        return text.substring(0, place) + (char) letter + text.substring(place + 1);
    }

    // ---- what it is

    private static void fiveHundredAndTwelveCalls() {
        says("An object is used for at most 512 calls after it has been made");
        MapLife x = new MapLife();
        for (int i = 1; i <= 512; i++) {
            boolean even = i % 2 == 0;
            due("call " + i, even ? x.undo() : x.draw(i % 12, 1 + i % 4), even ? 0 : 1);
        }
        x = new MapLife();
        for (int i = 1; i <= 512; i++) {
            due("write() as call " + i, x.write(i % 256), i <= 40 ? i : FULL);
        }
        // A round of four ACTS, of which fourteen are kept through all of them.
        x = mapped("M9" + PLAINS + "Da1Db1");
        for (int i = 1; i <= 480; i++) {
            boolean even = i % 2 == 0;
            due("act " + i, even ? x.rub(11) : x.draw(11, 4), even ? 4 : 3);
        }
        due("about(7)", x.about(7), 14);
        for (int i = 13; i > 4; i--) {
            due("undo()", x.undo(), i);
        }
        // The dearest ones, each as the first time.
        x = mapped("M9111111111111Da1Db2Dc1De2Df1Dg2Di1Dj2");
        int most = x.most(5, true);
        int mends = x.mends(4);
        int share = x.share(5, true);
        for (int i = 0; i < 156; i++) {
            due("most(5, true)", x.most(5, true), most);
            due("mends(4)", x.mends(4), mends);
            due("share(5, true)", x.share(5, true), share);
        }
    }

    // ---- cells, sorts, the text

    private static void cellsHaveAFirstAndALast() {
        says("CELLS are 0 .. 11");
        int[] none = {-1, 12, Integer.MIN_VALUE, Integer.MAX_VALUE, 32, 44, -12, 1 << 30};
        for (int c : none) {
            MapLife x = mapped("M9" + PLAINS + "Da1Dl1");
            due("cell(" + c + ", 0)", x.cell(c, 0), UNKNOWN);
            due("draw(" + c + ", 1)", x.draw(c, 1), UNKNOWN);
            due("rub(" + c + ")", x.rub(c), UNKNOWN);
            due("road(" + c + ")", x.road(c, false, false), UNKNOWN);
            due("share(" + c + ")", x.share(c, true), UNKNOWN);
        }
        for (int c = 0; c < 12; c += 11) {
            MapLife x = mapped("M9" + landWith(c, 1) + "Dg1");
            due("cell(" + c + ", 0)", x.cell(c, 0), 1);
            due("road(" + c + ")", x.road(c, false, false), c == 0 ? 0 : NONE);
            due("draw(" + c + ", 1)", x.draw(c, 1), 2);
            due("share(" + c + ")", x.share(c, true), 0);
            due("rub(" + c + ")", x.rub(c), c == 0 ? LATE : 1);
        }
    }

    private static int beside(int cell, int way) {
        int row = cell / 4 + new int[] {-1, 1, 0, 0}[way];
        int column = cell % 4 + new int[] {0, 0, -1, 1}[way];
        return row < 0 || row > 2 || column < 0 || column > 3 ? NONE : 4 * row + column;
    }

    /** He is on this CELL, come down and then to the right, with FOOD 9, and may go wherever a slip leads. */
    private static MapLife on(int cell, int way) {
        MapLife x = mapped("M9" + PLAINS);
        for (int at = 4; at <= cell / 4 * 4; at += 4) {
            x.draw(at, 1);
            x.go(1);
        }
        for (int at = cell / 4 * 4 + 1; at <= cell; at++) {
            x.draw(at, 1);
            x.go(3);
        }
        int step = way == 0 ? 8 : way == 1 ? 4 : way == 2 ? 11 : 1;
        x.draw((cell + step) % 12, 1);
        due("about(1)", x.about(1), cell);
        due("about(2)", x.about(2), 9);
        return x;
    }

    private static void rowsOfTheLandEnd() {
        says("CELLS 0 .. 11, in three rows of four; WAYS: within the three rows");
        for (int cell = 0; cell < 12; cell++) {
            for (int way = 0; way < 4; way++) {
                String from = " from CELL " + cell;
                int to = beside(cell, way);
                MapLife x = on(cell, way);
                due("judge(1, " + way + ")" + from, x.judge(1, way), to == NONE ? 0 : NONE);
                due("chance(1, " + way + ")" + from, x.chance(1, way, 5, 0, true), to == NONE ? 0 : 1);
                due("starts(1, " + way + ")" + from, x.starts(1, way, 9) >> cell & 1,
                        to == NONE || cell == 0 ? 0 : 1);
                if (to != NONE) {
                    due("road(" + to + ")" + from, x.road(to, true, true), 10 + way);
                }
                due("go(" + way + ")" + from, x.go(way), to == NONE ? LATE : to);
                due("about(1) behind go(" + way + ")" + from, x.about(1), to == NONE ? cell : to);
            }
            MapLife back = on(cell, 1);
            back.draw(0, 1);
            due("road(0) from CELL " + cell, back.road(0, true, false), cell / 4 + cell % 4);
        }
        // The end of one row does not lie beside the beginning of the next, nor the last row above the first.
        due("road(8) to the right of CELL 7", roadBy(8, 1, 2, 3, 7, 8), NONE);
        due("road(3) to the left of CELL 4", roadBy(3, 4, 3), NONE);
        due("road(7) to the left of CELL 8", roadBy(7, 4, 8, 7), NONE);
        due("road(8) up from CELL 0", roadBy(8, 8), NONE);
        due("road(11) up from CELL 3", roadBy(11, 1, 2, 3, 11), NONE);
        due("road(2) down from CELL 10", roadBy(2, 4, 8, 9, 10, 2), NONE);
        due("road(7) down from CELL 3", roadBy(7, 1, 2, 3, 7), 4);
    }

    private static int roadBy(int to, int... signs) {
        MapLife x = new MapLife();
        for (int i = 0; i < signs.length; i++) {
            due("draw(" + signs[i] + ", 1)", x.draw(signs[i], 1), i + 1);
        }
        return x.road(to, false, false);
    }

    private static void sortsOfTheLand() {
        says("the LAND (twelve SORTS 0 .. 4, CELL 0 first)");
        for (int c = 0; c < 12; c++) {
            for (int sort = 0; sort < 5; sort++) {
                MapLife x = mapped("M0" + landWith(c, sort));
                for (int i = 0; i < 12; i++) {
                    due("cell(" + i + ", 0)", x.cell(i, 0), i == c ? sort : 0);
                    due("cell(" + i + ", 1)", x.cell(i, 1), 0);
                }
            }
            due("fault() by '/' for CELL " + c, faultOf(with("M0" + PLAINS, 2 + c, '/')), 2 + c);
            due("fault() by '5' for CELL " + c, faultOf(with("M0" + PLAINS, 2 + c, '5')), 2 + c);
        }
    }

    private static void fortyBytes() {
        says("THE TEXT is bytes (40 at most)");
        MapLife x = new MapLife();
        due("about(8) of no byte", x.about(8), 0);
        due("fault() of no byte", x.fault(), 0);
        due("map() of no byte", x.map(), LATE);
        due("wipe() of no byte", x.wipe(), 0);
        x = written(EIGHT + "zz");
        due("about(8)", x.about(8), 40);
        due("write(68), the 41st", x.write(68), FULL);
        due("write(0), the 41st", x.write(0), FULL);
        due("write(255), the 41st", x.write(255), FULL);
        due("about(8)", x.about(8), 40);
        due("fault()", x.fault(), 38);
        due("wipe() of 40", x.wipe(), 40);
        due("wipe() again", x.wipe(), 0);
        due("write(77)", x.write(77), 1);
        x = written(EIGHT + "z");
        due("about(8)", x.about(8), 39);
        due("write(68), the 40th", x.write(68), 40);
        due("write(68), the 41st", x.write(68), FULL);
    }

    private static void eachByte() {
        says("bytes 0 .. 255");
        for (int b = 0; b < 256; b++) {
            MapLife x = new MapLife();
            due("write(" + b + ")", x.write(b), 1);
            due("fault() of byte " + b, x.fault(), b == 'M' ? 1 : 0);
        }
        int[] none = {-1, 256, 77 + 256, 77 - 256, 77 + 65536, Integer.MIN_VALUE, Integer.MAX_VALUE};
        for (int b : none) {
            MapLife x = new MapLife();
            due("write(" + b + ")", x.write(b), BAD);
            due("about(8)", x.about(8), 0);
        }
    }

    private static void foodOfAMap() {
        says("FOOD (0 .. 9)");
        for (int b = 0; b < 256; b++) {
            boolean figure = b >= '0' && b <= '9';
            MapLife x = written("M" + (char) b + PLAINS);
            due("fault() of FOOD by byte " + b, x.fault(), figure ? NONE : 1);
            due("map()", x.map(), figure ? 0 : LATE);
            due("about(2)", x.about(2), figure ? b - '0' : 0);
        }
    }

    private static void signsOfAMap() {
        says("SIGNS, none or more (8 at most)");
        for (int k = 0; k <= 8; k++) {
            MapLife x = written(EIGHT.substring(0, 14 + 3 * k));
            due("fault() of " + k + " SIGNS", x.fault(), NONE);
            due("map() of " + k + " SIGNS", x.map(), k);
            due("about(0)", x.about(0), k);
        }
        for (int b = 0; b < 256; b++) {
            MapLife x = written(EIGHT + (char) b);
            due("fault() of byte " + b + " behind 8 SIGNS", x.fault(), 38);
            due("map() of byte " + b + " behind 8 SIGNS", x.map(), LATE);
        }
        due("fault() of a ninth SIGN begun", faultOf(EIGHT + "Dl"), 38);
    }

    private static void lettersOfSigns() {
        says("Dcs on CELL c (a .. l: a is 0, b 1, and so on)");
        for (int c = 0; c < 12; c++) {
            MapLife x = mapped("M0" + PLAINS + sign(c, 1 + c % 4));
            for (int i = 0; i < 12; i++) {
                due("cell(" + i + ", 1)", x.cell(i, 1), i == c ? 1 + c % 4 : 0);
            }
        }
        for (int b = 0; b < 256; b++) {
            boolean cell = b >= 'a' && b <= 'l';
            due("fault() of CELL byte " + b, faultOf("M0" + PLAINS + "D" + (char) b + "1"), cell ? NONE : 15);
            due("fault() ending on it", faultOf("M0" + PLAINS + "D" + (char) b), cell ? 16 : 15);
            boolean free = b >= 'i' && b <= 'l';
            due("fault() of the eighth CELL byte " + b,
                    faultOf(with(EIGHT, 36, b)), free || b == 'h' ? NONE : 36);
        }
    }

    private static void letterD() {
        says("Dcs: a SIGN begins with D");
        for (int place = 14; place < 38; place += 3) {
            for (int b = 0; b < 256; b++) {
                due("fault() of byte " + b + " at " + place, faultOf(with(EIGHT, place, b)), b == 'D' ? NONE : place);
            }
        }
    }

    private static void noSignTwice() {
        says("no SIGN was told there ahead");
        for (int i = 0; i < 8; i++) {
            for (int j = 0; j < i; j++) {
                int told = EIGHT.charAt(15 + 3 * j);
                int place = 15 + 3 * i;
                due("fault() of CELL " + (char) told + " at " + place, faultOf(with(EIGHT, place, told)), place);
                due("fault() ending on it", faultOf(with(EIGHT, place, told).substring(0, place + 1)), place);
            }
        }
    }

    private static void sortsOfSigns() {
        says("a SIGN of SORT s (1 .. 4)");
        for (int b = 0; b < 256; b++) {
            boolean sort = b >= '1' && b <= '4';
            due("fault() of SORT byte " + b, faultOf("M0" + PLAINS + "Da" + (char) b), sort ? NONE : 16);
            due("fault() of the last SORT byte " + b, faultOf(with(EIGHT, 37, b)), sort ? NONE : 37);
        }
        for (int sort = 1; sort <= 4; sort++) {
            due("cell(11, 1)", mapped("M0" + PLAINS + sign(11, sort)).cell(11, 1), sort);
        }
    }

    // ---- fault

    private static void firstByte() {
        says("FAULT: the place (from 0) of the first byte by which THE TEXT can be no MAP");
        for (int place = 0; place < 38; place++) {
            String slip = with(EIGHT, place, '?');
            due("fault() by place " + place, faultOf(slip), place);
            due("fault() ending on it", faultOf(slip.substring(0, place + 1)), place);
            due("map()", written(slip).map(), LATE);
        }
        due("fault() of two", faultOf(with(with(EIGHT, 20, '?'), 3, '?')), 3);
        due("fault() of the last and the first", faultOf(with(with(EIGHT, 37, '?'), 0, '?')), 0);
    }

    private static void whateverCameBehind() {
        says("whatever came behind it");
        MapLife x = written("M90000x");
        for (int i = 0; i < 33; i++) {
            due("fault()", x.fault(), 6);
            due("write()", x.write("M0000000000000Da1Db1Dc1Dd1De1Df1Dg1Dh1".charAt(i)), 8 + i);
        }
        due("fault() of 40 bytes", x.fault(), 6);
        due("fault() of a LAND byte that would be right later", faultOf("M9D"), 2);
        due("fault() of a SIGN ahead of its time", faultOf("M90000000000Da1"), 12);
    }

    private static void notAtItsEnd() {
        says("its length, if it is only not at its end");
        for (int length = 0; length <= 38; length++) {
            boolean end = length >= 14 && (length - 14) % 3 == 0;
            MapLife x = written(EIGHT.substring(0, length));
            due("fault() of " + length + " bytes", x.fault(), end ? NONE : length);
            due("map() of " + length + " bytes", x.map(), end ? (length - 14) / 3 : LATE);
        }
    }

    // ---- the year's beginning

    private static void atFirst() {
        says("At first the LAND is PLAIN, all CELLS are BLANK, FOOD is 0");
        MapLife x = new MapLife();
        for (int what = 0; what < 9; what++) {
            due("about(" + what + ")", x.about(what), 0);
        }
        for (int c = 0; c < 12; c++) {
            due("cell(" + c + ", 0)", x.cell(c, 0), 0);
            due("cell(" + c + ", 1)", x.cell(c, 1), 0);
            due("cell(" + c + ", 2)", x.cell(c, 2), 0);
        }
    }

    private static void madeAnew() {
        says("When THE MAP is made anew: CELL 0, THE DAY 0, no HARM, nothing TAKEN");
        MapLife x = mapped("M9000400000000Db1Dc1Dd1De2");
        x.go(3);
        x.go(3);
        x.go(3);
        due("HARM", x.about(3), 1);
        due("TAKEN", x.about(4), 6);
        due("where he is", x.about(1), 2);
        due("THE DAY", x.about(5), 3);
        x.draw(11, 4);
        x.rub(1);
        due("map() again", x.map(), 4);
        int[] want = {4, 0, 9, 0, 0, 0, 2 + 4 + 8 + 16, 0, 26};
        for (int what = 0; what < 9; what++) {
            due("about(" + what + ")", x.about(what), want[what]);
        }
        due("cell(11, 1), drawn ahead", x.cell(11, 1), 0);
        due("cell(1, 1), rubbed out ahead", x.cell(1, 1), 1);
        due("go(3), not TAKEN any more", x.go(3), 1);
        due("about(2)", x.about(2), 9);
        // Nothing of one LAND is left in the next, whichever SORT it was.
        for (int sort = 4; sort >= 0; sort--) {
            x.wipe();
            for (int i = 0; i < 14; i++) {
                x.write(i == 0 ? 'M' : '0' + (i == 1 ? 9 : sort));
            }
            due("map() of SORT " + sort, x.map(), 0);
            for (int c = 0; c < 12; c++) {
                due("cell(" + c + ", 0)", x.cell(c, 0), sort);
                due("cell(" + c + ", 1)", x.cell(c, 1), 0);
            }
        }
    }

    // ---- good, and where he may go

    private static final int[] WHOLE = {0, 3, 2, 1, 0}, HALF = {0, 1, 1, 0, 0};

    private static void goodOfSigns() {
        says("GOOD of a SIGN: SPRING 3, WOOD 2, HUT 1, ROCK 0; half of it (cut), if the LAND is of another SORT");
        for (int land = 0; land < 5; land++) {
            due("cell(1, 2) of a BLANK", mapped("M5" + landWith(1, land)).cell(1, 2), 0);
            for (int sort = 1; sort < 5; sort++) {
                MapLife x = mapped("M5" + landWith(1, land) + sign(1, sort));
                int good = sort == land ? WHOLE[sort] : HALF[sort];
                due("cell(1, 2), SIGN " + sort + ", LAND " + land, x.cell(1, 2), good);
                if (sort < 4 && land < 4) {
                    due("go(3)", x.go(3), 1);
                    due("about(2), SIGN " + sort + ", LAND " + land, x.about(2), 4 + good);
                }
            }
        }
    }

    private static void whereHeMayGo() {
        says("He may go into a CELL that is neither BLANK nor a ROCK by the map");
        for (int land = 0; land < 5; land++) {
            due("go(3) into a BLANK", mapped("M5" + landWith(1, land)).go(3), LATE);
            for (int sort = 1; sort < 5; sort++) {
                MapLife x = mapped("M5" + landWith(1, land) + sign(1, sort));
                int want = sort == 4 ? LATE : land == 4 ? 0 : 1;
                due("go(3), SIGN " + sort + ", LAND " + land, x.go(3), want);
                due("about(5)", x.about(5), sort == 4 ? 0 : 1);
                due("about(3)", x.about(3), sort < 4 && land == 4 ? 1 : 0);
            }
        }
    }

    private static void fourIsNoWay() {
        says("WAYS 0 .. 3; 4 is no way: he RESTS");
        MapLife x = mapped("M9" + PLAINS + "Db1De1");
        due("go(4)", x.go(4), BAD);
        due("go(-1)", x.go(-1), BAD);
        due("go(0)", x.go(0), LATE);
        due("judge(1, 4)", x.judge(1, 4), NONE);
        due("judge(1, 5)", x.judge(1, 5), BAD);
        due("starts(1, 4, 8)", x.starts(1, 4, 8), 2 + 16);
        due("chance(1, 4, 0, 10, true)", x.chance(1, 4, 0, 10, true), 1);
        due("go(3)", x.go(3), 1);
    }

    private static void againstARock() {
        says("if the LAND of the CELL is a ROCK, HARM is 1 more, and he stays where he is");
        MapLife x = mapped("M2" + landWith(1, 4) + "Da1Db1");
        due("go(3)", x.go(3), 0);
        int[] once = {2, 0, 1, 1, 0, 1, 3, 1};
        int[] twice = {2, 0, 0, 2, 0, 2, 3, 2};
        for (int what = 0; what < 8; what++) {
            due("about(" + what + ") behind one", x.about(what), once[what]);
        }
        due("go(3) with the last FOOD", x.go(3), 0);
        for (int what = 0; what < 8; what++) {
            due("about(" + what + ") behind two", x.about(what), twice[what]);
        }
        due("go(3) without FOOD", x.go(3), LATE);
        due("about(3)", x.about(3), 2);
        x = mapped("M9" + landWith(4, 4) + "Db1De1");
        for (int i = 1; i <= 9; i++) {
            due("go(1)", x.go(1), 0);
            due("about(3)", x.about(3), i);
            due("about(2)", x.about(2), 9 - i);
        }
    }

    private static void takenOnce() {
        says("if it is not TAKEN, FOOD is its GOOD more, and it is TAKEN");
        MapLife x = mapped("M5100000000000Da1Db2");
        due("about(4), where he began", x.about(4), 0);
        x.go(3);
        due("about(2), the first time", x.about(2), 5);
        due("about(4)", x.about(4), 2);
        x.go(2);
        due("about(2), where he began", x.about(2), 7);
        due("about(4)", x.about(4), 3);
        x.go(3);
        due("about(2), the second time", x.about(2), 6);
        due("about(4)", x.about(4), 3);
        // A HUT on other LAND gives nothing, and is TAKEN all the same.
        x = mapped("M5" + PLAINS + "Db3");
        x.go(3);
        due("about(2)", x.about(2), 4);
        due("about(4)", x.about(4), 2);
        x = mapped("M9" + PLAINS + "De1Di1Dj1Dk1Dl1");
        int[] ways = {1, 1, 3, 3, 3};
        int[] taken = {16, 272, 784, 1808, 3856};
        for (int i = 0; i < 5; i++) {
            x.go(ways[i]);
            due("about(4) behind " + (i + 1), x.about(4), taken[i]);
        }
    }

    private static void withoutFood() {
        says("Without FOOD (0) he neither goes nor RESTS");
        MapLife x = mapped("M0" + landWith(1, 1) + "Db1");
        due("go(3) with FOOD 0", x.go(3), LATE);
        due("rest() with FOOD 0", x.rest(), LATE);
        due("about(5)", x.about(5), 0);
        x = mapped("M1" + landWith(1, 1) + "Db1");
        due("go(3) with FOOD 1", x.go(3), 1);
        due("about(2)", x.about(2), 3);
        x = mapped("M1" + landWith(1, 1) + "Db1");
        due("rest() with FOOD 1", x.rest(), 0);
        due("rest() with FOOD 0", x.rest(), LATE);
        due("go(3) with FOOD 0", x.go(3), LATE);
        // Drawn and rubbed out without FOOD.
        due("draw(2, 1) with FOOD 0", x.draw(2, 1), 2);
        due("rub(1) with FOOD 0", x.rub(1), 1);
        due("undo() with FOOD 0", x.undo(), 2);
    }

    private static void theDay() {
        says("THE DAY is one more each time");
        MapLife x = mapped("M9" + landWith(4, 4) + "Da1Db1De1");
        x.draw(5, 1);
        due("about(5) behind draw()", x.about(5), 0);
        x.rub(5);
        due("about(5) behind rub()", x.about(5), 0);
        x.go(3);
        due("about(5) behind go()", x.about(5), 1);
        x.go(2);
        x.go(1);
        due("about(5) behind go() against a ROCK", x.about(5), 3);
        x.rest();
        due("about(5) behind rest()", x.about(5), 4);
        x.go(0);
        due("about(5) behind a refused go()", x.about(5), 4);
        x.years(30);
        due("about(5) behind years()", x.about(5), 4);
        x.undo();
        due("about(5) behind undo()", x.about(5), 3);
    }

    private static void drawnOnBlanks() {
        says("DRAWN: a SIGN on a BLANK CELL (8 SIGNS at most)");
        for (int c = 0; c < 12; c++) {
            for (int sort = 1; sort < 5; sort++) {
                MapLife x = mapped("M1" + landWith(c, 4));
                due("draw(" + c + ", " + sort + ")", x.draw(c, sort), 1);
                due("cell(" + c + ", 1)", x.cell(c, 1), sort);
                due("draw(" + c + ", " + sort + ") again", x.draw(c, sort), LATE);
                due("cell(" + c + ", 0)", x.cell(c, 0), 4);
            }
        }
        MapLife x = mapped(EIGHT.substring(0, 35));
        due("draw(7, 4), the eighth", x.draw(7, 4), 8);
        due("draw(8, 4), the ninth", x.draw(8, 4), FULL);
        due("rub(7)", x.rub(7), 4);
        due("draw(8, 4), the eighth", x.draw(8, 4), 8);
        due("draw(7, 4), the ninth", x.draw(7, 4), FULL);
        x = mapped(EIGHT);
        due("draw(8, 1) with 8 SIGNS told", x.draw(8, 1), FULL);
        due("about(0)", x.about(0), 8);
    }

    private static void rubbedOutElsewhere() {
        says("RUBBED OUT: a SIGN, not where he is");
        MapLife x = mapped("M9" + PLAINS + "Da4Db1Dl3");
        due("rub(0) where he is", x.rub(0), LATE);
        due("rub(11)", x.rub(11), 3);
        due("rub(11), BLANK now", x.rub(11), LATE);
        due("go(3)", x.go(3), 1);
        due("rub(1) where he is", x.rub(1), LATE);
        due("rub(0), which he left", x.rub(0), 4);
        due("about(0)", x.about(0), 1);
    }

    // ---- acts

    /** An ACT: RESTED, GONE against a ROCK, DRAWN as the third SIGN, RUBBED OUT, GONE to the right. */
    private static int actOf(MapLife x, int kind) {
        switch (kind) {
            case 0:
                return x.rest() >= 0 ? 1 : 0;
            case 1:
                return x.go(1) == 0 ? 1 : 0;
            case 2:
                return x.draw(11, 1) == 3 ? 1 : 0;
            case 3:
                return x.rub(11) == 1 ? 1 : 0;
            default:
                return x.go(3) >= 0 ? 1 : 0;
        }
    }

    private static String told(MapLife x) {
        StringBuilder all = new StringBuilder();
        for (int what = 0; what < 7; what++) {
            all.append(x.about(what)).append(' ');
        }
        return all.append(x.cell(11, 1)).toString();
    }

    private static void fourteenActs(int acts, int first) {
        // CELL 4 is a ROCK in truth, so that he stays on CELL 0.
        MapLife x = mapped("M9" + landWith(4, 4) + "De1Db1");
        String[] before = new String[acts + 1];
        for (int i = 0; i < acts; i++) {
            before[i] = told(x);
            int kind = (first + i) % 4;
            due("act " + i + " of kind " + kind, actOf(x, kind), 1);
            due("about(7)", x.about(7), Math.min(14, i + 1));
        }
        int left = Math.min(14, acts);
        for (int i = acts - 1; i >= 0 && i >= acts - 14; i--) {
            left--;
            due("undo()", x.undo(), left);
            due("all as it was ahead of act " + i, told(x).equals(before[i]) ? 1 : 0, 1);
            due("about(7)", x.about(7), left);
        }
        due("undo() of no ACT", x.undo(), LATE);
    }

    private static void actsAreARow() {
        says("ACTS are a row (14 at most; when it is full, the first one is forgotten)");
        for (int first = 0; first < 3; first += 2) {
            fourteenActs(0, first);
            fourteenActs(1, first);
            fourteenActs(13, first);
            fourteenActs(14, first);
            fourteenActs(15, first);
            fourteenActs(16, first);
        }
    }

    private static void actsAreOfFourKinds() {
        says("ACTS (GONE, RESTED, DRAWN, RUBBED OUT)");
        MapLife x = mapped("M9" + landWith(4, 4) + "Da1Db1De1");
        int[] kinds = {0, 1, 4};
        for (int i = 0; i < kinds.length; i++) {
            actOf(x, kinds[i]);
            due("about(7) behind kind " + kinds[i], x.about(7), i + 1);
        }
        x.draw(7, 1);
        due("about(7) behind draw()", x.about(7), 4);
        x.rub(7);
        due("about(7) behind rub()", x.about(7), 5);
        x.keep(0);
        x.seed(3);
        x.years(9);
        x.write(65);
        x.wipe();
        x.map();
        x.most(3, true);
        due("about(7) behind what is no ACT", x.about(7), 5);
        // Forgotten by the fifteenth ACT, of whichever kind it is.
        for (int kind = 0; kind < 5; kind++) {
            x = mapped("M9" + landWith(4, 4) + (kind == 3 ? "De1Db1Dl1" : "De1Db1"));
            for (int i = 0; i < 14; i++) {
                due("act " + i, i % 2 == 0 ? x.draw(10, 2) : x.rub(10), i % 2 == 1 ? 2 : kind == 3 ? 4 : 3);
            }
            due("about(7)", x.about(7), 14);
            due("the fifteenth of kind " + kind, actOf(x, kind), 1);
            due("about(7) behind kind " + kind, x.about(7), 14);
            for (int i = 13; i >= 0; i--) {
                due("undo()", x.undo(), i);
            }
            due("undo() of the forgotten", x.undo(), LATE);
            due("cell(10, 1), drawn by the forgotten", x.cell(10, 1), 2);
        }
    }

    private static void theLastCanBeUndone() {
        says("the last one can be undone");
        MapLife x = mapped("M9" + PLAINS + "Db1");
        due("undo() of none", x.undo(), LATE);
        x.draw(0, 1);
        x.go(3);
        due("undo() of go", x.undo(), 1);
        due("about(1)", x.about(1), 0);
        due("cell(0, 1) still drawn", x.cell(0, 1), 1);
        x.rest();
        due("undo() of rest", x.undo(), 1);
        due("undo() of draw", x.undo(), 0);
        due("cell(0, 1)", x.cell(0, 1), 0);
        due("undo() of none", x.undo(), LATE);
    }

    // ---- what follows changes nothing

    private static void errorsAreBits() {
        says("ERRORS: CELLS with a SIGN of which the LAND is of another SORT (bits)");
        for (int c = 0; c < 12; c++) {
            for (int land = 0; land < 5; land++) {
                due("about(6) of a BLANK", mapped("M0" + landWith(c, land)).about(6), 0);
                for (int sort = 1; sort < 5; sort++) {
                    int bits = mapped("M0" + landWith(c, land) + sign(c, sort)).about(6);
                    due("about(6), SIGN " + sort + ", LAND " + land, bits, sort == land ? 0 : 1 << c);
                }
            }
        }
        due("about(6) of eight", mapped("M0" + PLAINS + "Da1Db1Dc1Dd1Di1Dj1Dk1Dl1").about(6), 15 + 256 * 15);
    }

    private static void nothingIsChanged() {
        says("In what follows nothing is changed");
        MapLife x = mapped("M9111141111111Db1De2Df3Dc4Da2");
        x.go(3);
        x.go(1);
        x.go(2);
        String before = told(x) + x.about(7) + x.about(8);
        for (int n = 1; n < 7; n++) {
            x.most(n, n % 2 == 0);
            x.mends(n);
            x.draws(n);
            x.judge(n, 4);
            x.starts(n, 4, 7);
            x.chance(n, 4, 5, 5, true);
            x.years(n);
        }
        for (int c = 0; c < 12; c++) {
            x.road(c, c % 2 == 0, true);
            x.share(c, true);
            x.rests(c);
        }
        due("all is as it was", (told(x) + x.about(7) + x.about(8)).equals(before) ? 1 : 0, 1);
        due("undo()", x.undo(), 2);
    }

    public static void main(String[] args) {
        fiveHundredAndTwelveCalls();
        cellsHaveAFirstAndALast();
        rowsOfTheLandEnd();
        sortsOfTheLand();
        fortyBytes();
        eachByte();
        foodOfAMap();
        signsOfAMap();
        lettersOfSigns();
        letterD();
        noSignTwice();
        sortsOfSigns();
        firstByte();
        whateverCameBehind();
        notAtItsEnd();
        atFirst();
        madeAnew();
        goodOfSigns();
        whereHeMayGo();
        fourIsNoWay();
        againstARock();
        takenOnce();
        withoutFood();
        theDay();
        drawnOnBlanks();
        rubbedOutElsewhere();
        actsAreARow();
        actsAreOfFourKinds();
        theLastCanBeUndone();
        errorsAreBits();
        nothingIsChanged();
        System.out.println(sentences + " sentences, " + asked + " answers asked, " + wrong + " not as due");
        if (wrong != 0) {
            System.exit(1);
        }
    }
}
