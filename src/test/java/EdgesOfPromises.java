/**
 * The bounds of what is told, drawn by chance and kept (promises 13 to 25), a test for each sentence
 * of the document: the least and the greatest n, f, h, x, m and l, no row, no ROAD, NONE and 0.
 */
public final class EdgesOfPromises {
    private static final int UNKNOWN = -1, BAD = -2, LATE = -3, NONE = -9;
    private static final int LEAST = Integer.MIN_VALUE, GREATEST = Integer.MAX_VALUE;
    private static final String PLAINS = "000000000000";
    private static String sentence = "";
    private static int sentences = 0;
    private static int asked = 0;
    private static int wrong = 0;

    private static void says(String words) {
        sentence = words;
        sentences++;
    }

    private static void due(String call, long got, long want) {
        asked++;
        if (got != want) {
            wrong++;
            System.out.println("\"" + sentence + "\": " + call + " answered " + got + ", due is " + want);
        }
    }

    private static MapLife mapped(String text) {
        MapLife x = new MapLife();
        for (int i = 0; i < text.length(); i++) {
            x.write(text.charAt(i));
        }
        due("map() of " + text, x.map(), (text.length() - 14) / 3);
        return x;
    }

    // ---- road

    private static void dueRoad(MapLife x, int cell, boolean truly, int steps, int row) {
        String call = "road(" + cell + ", " + truly + ", ";
        due(call + "false)", x.road(cell, truly, false), steps);
        due(call + "true)", x.road(cell, truly, true), row);
    }

    private static void roadToWhereHeIs() {
        says("ROAD to a CELL: the fewest steps from where he is: none to where he is");
        dueRoad(new MapLife(), 0, false, 0, 1);
        dueRoad(new MapLife(), 0, true, 0, 1);
        // Also where he may not go himself: a ROCK by the map, a ROCK by the LAND.
        dueRoad(mapped("M0" + "400000000000" + "Da4"), 0, false, 0, 1);
        dueRoad(mapped("M0" + "400000000000" + "Da4"), 0, true, 0, 1);
        MapLife x = mapped("M9" + PLAINS + "Db1");
        x.go(3);
        dueRoad(x, 1, false, 0, 1);
        dueRoad(x, 0, false, NONE, NONE);
    }

    private static void roadByTheMap() {
        says("each into a CELL into which he may go by the map (truly = false)");
        for (int sort = 0; sort < 5; sort++) {
            for (int land = 0; land < 5; land++) {
                String text = "M0" + "0" + land + "0000000000" + (sort == 0 ? "" : "Db" + sort);
                boolean open = sort > 0 && sort < 4;
                dueRoad(mapped(text), 1, false, open ? 1 : NONE, open ? 13 : NONE);
            }
        }
    }

    private static void roadTruly() {
        says("or into one of which, besides, the LAND is no ROCK (truly = true)");
        for (int sort = 0; sort < 5; sort++) {
            for (int land = 0; land < 5; land++) {
                String text = "M0" + "0" + land + "0000000000" + (sort == 0 ? "" : "Db" + sort);
                boolean open = sort > 0 && sort < 4 && land < 4;
                dueRoad(mapped(text), 1, true, open ? 1 : NONE, open ? 13 : NONE);
            }
        }
        MapLife x = mapped("M0" + "040000000000" + "Db1Dc1De1Df1Dg1");
        dueRoad(x, 2, false, 2, 133);
        dueRoad(x, 2, true, 4, 11330);
    }

    private static void roadRows() {
        says("the first such row (WAYS as figures behind a 1, the least as a number)");
        MapLife x = mapped("M0" + PLAINS + "Db1Dc1De1Df1Dg1Di1Dj1Dk1");
        dueRoad(x, 5, false, 2, 113);
        dueRoad(x, 6, true, 3, 1133);
        dueRoad(x, 10, false, 4, 11133);
        dueRoad(x, 9, true, 3, 1113);
        x = mapped("M9" + PLAINS + "Da1Db1Df1De1");
        x.go(3);
        x.go(1);
        dueRoad(x, 0, false, 2, 102);
        dueRoad(x, 1, false, 1, 10);
        dueRoad(x, 4, true, 1, 12);
    }

    private static void roadOfEight() {
        says("NONE, if there are more than 8 steps");
        // From a BLANK CELL over eight SIGNS: the longest ROAD that can be.
        MapLife x = mapped("M0" + PLAINS + "Db1Dc1Dd1Dh1Dl1Dk1Dj1Di1");
        dueRoad(x, 11, false, 5, 133311);
        dueRoad(x, 10, false, 6, 1333112);
        dueRoad(x, 9, true, 7, 13331122);
        dueRoad(x, 8, false, 8, 133311222);
        dueRoad(x, 8, true, 8, 133311222);
        x = mapped("M0" + PLAINS + "De3Di3Dj3Dk3Dl3Dh3Dd3Dc3");
        dueRoad(x, 2, true, 8, 111333002);
    }

    private static void noRoad() {
        says("ROAD: NONE");
        MapLife x = mapped("M9" + PLAINS + "Dc1Dd1Dg1Dh1Di1");
        for (int cell = 1; cell < 12; cell++) {
            dueRoad(x, cell, false, NONE, NONE);
            dueRoad(x, cell, true, NONE, NONE);
        }
        x.draw(1, 1);
        dueRoad(x, 2, false, 2, 133);
        dueRoad(x, 8, false, NONE, NONE);
    }

    private static void roadWithoutFood() {
        says("ROAD: how many (FOOD and what is TAKEN have no part in it)");
        MapLife x = mapped("M1" + PLAINS + "Da3Db3");
        x.go(3);
        due("about(2)", x.about(2), 0);
        dueRoad(x, 0, true, 1, 12);
    }

    // ---- most

    private static void dueMost(MapLife x, int n, int food, int row) {
        due("most(" + n + ", false)", x.most(n, false), food);
        due("most(" + n + ", true)", x.most(n, true), row);
    }

    private static void mostDays() {
        says("MOST for n DAYS (1 .. 5)");
        int[] bad = {0, 6, -1, LEAST, GREATEST};
        for (int n : bad) {
            dueMost(mapped("M9" + PLAINS), n, BAD, BAD);
            dueMost(mapped("M0" + PLAINS), n, BAD, BAD);
        }
        MapLife x = mapped("M9" + PLAINS);
        int row = 1;
        for (int n = 1; n <= 5; n++) {
            row = row * 10 + 4;
            dueMost(x, n, 9 - n, row);
        }
    }

    private static void mostWithoutFood() {
        says("MOST: NONE: there is none");
        for (int food = 0; food <= 5; food++) {
            MapLife x = mapped("M" + food + "111111111111");
            int row = 1;
            for (int n = 1; n <= 5; n++) {
                row = row * 10 + 4;
                dueMost(x, n, n <= food ? food - n : NONE, n <= food ? row : NONE);
            }
        }
        // FOOD 1, but a SPRING beside: three DAYS more.
        MapLife x = mapped("M1" + "010000000000" + "Db1");
        dueMost(x, 1, 3, 13);
        dueMost(x, 2, 2, 134);
        dueMost(x, 4, 0, 13444);
        dueMost(x, 5, NONE, NONE);
        dueMost(new MapLife(), 1, NONE, NONE);
    }

    private static void mostOfLikeOnes() {
        says("MOST: of like ones the least as a number");
        // On CELL 5; HUTS that give nothing lie on every side, so that every WAY is like a REST.
        MapLife x = mapped("M9" + PLAINS + "Db3De3Df3Dg3Dj3");
        x.go(3);
        x.go(1);
        due("about(1)", x.about(1), 5);
        dueMost(x, 1, 6, 10);
        x.rub(1);
        dueMost(x, 1, 6, 11);
        x.rub(9);
        dueMost(x, 1, 6, 12);
        x.rub(4);
        dueMost(x, 1, 6, 13);
        dueMost(x, 3, 4, 1323);
        x.rub(6);
        dueMost(x, 1, 6, 14);
        // A ROCK in truth costs a DAY like a REST, and 3 is less than 4.
        dueMost(mapped("M9" + "040000000000" + "Db1"), 2, 7, 133);
        // The better one is later as a number.
        dueMost(mapped("M9" + "010020000000" + "Db1De2"), 1, 11, 13);
        dueMost(mapped("M9" + "010010000000" + "Db1De1"), 1, 11, 11);
    }

    private static void mostRows() {
        says("MOST: the row (as figures behind a 1)");
        MapLife x = mapped("M9" + "100010000000" + "Da1De1");
        dueMost(x, 2, 13, 110);
        x.go(1);
        dueMost(x, 1, 13, 10);
        dueMost(x, 2, 12, 101);
        x = mapped("M9" + "010001000100" + "Db1Df1Dj1");
        // Three SPRINGS in five DAYS: the two that are left over are spent ahead of the last one.
        dueMost(x, 5, 13, 131011);
    }

    private static void mostRowsOfNDays() {
        says("MOST: of all rows of WAYS and RESTS (4), one each DAY");
        // Each true HUT gives back what the DAY costs: more DAYS have as much FOOD, but longer rows.
        MapLife x = mapped("M9" + "333300030000" + "Da3Db3Dc3Dd3Dh3");
        dueMost(x, 1, 9, 13);
        dueMost(x, 2, 9, 132);
        dueMost(x, 3, 9, 1333);
        dueMost(x, 4, 9, 13331);
        dueMost(x, 5, 8, 132333);
        x = mapped("M9" + "033300030000" + "Db3Dc3Dd3Dh3");
        dueMost(x, 1, 9, 13);
        dueMost(x, 2, 9, 133);
        dueMost(x, 3, 9, 1333);
        dueMost(x, 4, 9, 13331);
        dueMost(x, 5, 8, 133310);
    }

    // ---- mends

    private static void mendsDays() {
        says("MENDS for n (1 .. 4)");
        int[] bad = {0, 5, -1, LEAST, GREATEST};
        for (int n : bad) {
            due("mends(" + n + ")", mapped("M9" + PLAINS + "Db1").mends(n), BAD);
            due("mends(" + n + ") without ERRORS", new MapLife().mends(n), BAD);
        }
        // In truth a WOOD one step away, a SPRING two, behind a HUT, another three, behind two HUTS;
        // in four DAYS he comes to the nearer one by both HUTS.
        MapLife x = mapped("M9" + "020031003100" + "Db3De3Df3Di3Dj3");
        due("mends(1)", x.mends(1), 1);
        due("mends(2)", x.mends(2), 5);
        due("mends(3)", x.mends(3), 9);
        due("mends(4)", x.mends(4), 5);
        x = mapped("M9" + "033310000001" + "Db3Dc3Dd3Dh1Dl2");
        due("mends(3), none is reached", x.mends(3), 7);
        due("mends(4), the way would be barred", x.mends(4), 11);
    }

    private static void mendsNone() {
        says("MENDS: NONE: there are none (of ERRORS, but where he is)");
        for (int n = 1; n <= 4; n++) {
            due("mends(" + n + ") of a new object", new MapLife().mends(n), NONE);
            due("mends(" + n + ") of right SIGNS", mapped("M9" + "123400000000" + "Da1Db2Dc3Dd4").mends(n), NONE);
            due("mends(" + n + ") of BLANKS", mapped("M9" + "111111111111").mends(n), NONE);
            due("mends(" + n + ") where he is", mapped("M9" + "200000000000" + "Da1").mends(n), NONE);
            due("mends(" + n + ") where he is not", mapped("M9" + "200000000000" + "Da1Dl1").mends(n), 11);
        }
        MapLife x = mapped("M9" + "200000000000" + "Da1Db1");
        due("mends(1)", x.mends(1), 1);
        x.go(3);
        due("mends(1) from CELL 1", x.mends(1), 0);
    }

    private static void mendedToBlank() {
        says("MENDS: if its SIGN were what the LAND is (BLANK, if that is PLAIN)");
        // CELL 1 is the way to the SPRING on CELL 2; mended, it would be barred.
        MapLife x = mapped("M5" + "001020000000" + "Db3Dc1De3");
        due("mends(2)", x.mends(2), 4);
        due("about(2)", x.about(2), 5);
        due("cell(4, 1) as it was", x.cell(4, 1), 3);
        // So it would be as a ROCK; on a HUT he would get through.
        due("mends(2) of a ROCK", mapped("M5" + "041020000000" + "Db3Dc1De3").mends(2), 4);
        due("mends(2) of a HUT", mapped("M5" + "031020000000" + "Db2Dc1De3").mends(2), 1);
        // A ROCK by the map that is a WOOD in truth: mended, he may go into it.
        due("mends(1) of a ROCK by the map", mapped("M5" + "000020000000" + "Db3De4").mends(1), 4);
    }

    private static void noneIsLessThanNothing() {
        says("MENDS: NONE is less than 0");
        // Without CELL 1 nobody lives two DAYS; with it he has 0 at last.
        due("mends(2)", mapped("M1" + PLAINS + "Db1De3").mends(2), 4);
        due("mends(1), 0 by both", mapped("M1" + PLAINS + "Db3De3").mends(1), 1);
    }

    private static void mendsOfLikeOnes() {
        says("MENDS: of like ones the least CELL, if all are NONE, too");
        due("mends(1), all NONE", mapped("M0" + PLAINS + "Dl1Dg1Dh1").mends(1), 6);
        due("mends(4), all NONE", mapped("M3" + PLAINS + "Dl1Dg1Dh1").mends(4), 6);
        due("mends(1), all alike", mapped("M9" + PLAINS + "Dl1Dg1Dh1").mends(1), 6);
        due("mends(1), two of three alike", mapped("M9" + "010010000000" + "Dc1De2Db2").mends(1), 1);
        due("mends(4) of the last CELL alone", mapped("M0" + PLAINS + "Dl1").mends(4), 11);
    }

    // ---- draws

    private static void drawsDays() {
        says("DRAWS for n (1 .. 3)");
        int[] bad = {0, 4, -1, LEAST, GREATEST};
        for (int n : bad) {
            due("draws(" + n + ")", mapped("M9" + "110000000000").draws(n), BAD);
            due("draws(" + n + ") on plain land", new MapLife().draws(n), BAD);
            due("draws(" + n + ") with 8 SIGNS", mapped("M9111111111111Da1Db1Dc1Dd1De1Df1Dg1Dh1").draws(n), BAD);
        }
        MapLife x = mapped("M9" + "033010000010" + "Db3Dc3De1Dg4");
        due("draws(1), no other BLANK", x.draws(1), 10);
        // A WOOD one step away, a SPRING two, behind a HUT, another three, behind two HUTS.
        x = mapped("M9" + "020031003100" + "De3Di3");
        due("draws(1)", x.draws(1), 1);
        due("draws(2)", x.draws(2), 5);
        due("draws(3)", x.draws(3), 9);
        x = mapped("M9" + "232100000000" + "Db3Dc2");
        due("draws(1), none is reached", x.draws(1), 0);
        due("draws(2), none is better than going on", x.draws(2), 0);
        due("draws(3), a SPRING three steps away", x.draws(3), 3);
    }

    private static void drawsNone() {
        says("DRAWS: NONE: there are none, or there are 8 SIGNS");
        for (int n = 1; n <= 3; n++) {
            due("draws(" + n + ") of a new object", new MapLife().draws(n), NONE);
            due("draws(" + n + ") where all is drawn", mapped("M9" + "120000000003" + "Da4Db4Dl4").draws(n), NONE);
            due("draws(" + n + ") with 7 SIGNS", mapped("M9111111111111Da1Db1Dc1Dd1De1Df1Dg1").draws(n), 7);
            due("draws(" + n + ") with 8 SIGNS", mapped("M9111111111111Da1Db1Dc1Dd1De1Df1Dg1Dh1").draws(n), NONE);
        }
        MapLife x = mapped("M9111111111111Da1Db1Dc1Dd1De1Df1Dg1Dh1");
        x.rub(1);
        due("draws(1) with one rubbed out", x.draws(1), 1);
        due("draws(1) of the last CELL", mapped("M0" + "000000000001").draws(1), 11);
    }

    private static void drawsOfLikeOnes() {
        says("DRAWS: of like ones the least; MOST for n would be greatest");
        due("draws(2), NONE is less than 0", mapped("M1" + "040030000000").draws(2), 4);
        due("draws(3), all NONE", mapped("M0" + "000003000010").draws(3), 5);
        due("draws(1), all alike", mapped("M9" + "000003000010").draws(1), 5);
        due("draws(1), a SPRING behind a WOOD", mapped("M9" + "020010000000").draws(1), 4);
        due("draws(1), two SPRINGS", mapped("M9" + "010010000000").draws(1), 1);
        due("draws(1), where he is", mapped("M9" + "100000000001").draws(1), 0);
        due("draws(1), a ROCK is no better than nothing", mapped("M9" + "004300000000").draws(1), 2);
    }

    // ---- judged

    private static void judgedRows() {
        says("JUDGED: a row of n WAYS (1 .. 6, as figures, 4: RESTS)");
        int[] n = {0, 7, -1, LEAST, GREATEST, 1, 1, 1, 1, 2, 2, 2, 6, 6, 6, 6, 6, 6};
        int[] row = {0, 4444444, 4, 4, 4, 5, 10, -1, LEAST, 45, 54, 100, 444445, 544444, 1000000, 444454, -4, GREATEST};
        for (int i = 0; i < n.length; i++) {
            due("judge(" + n[i] + ", " + row[i] + ")", mapped("M9" + PLAINS).judge(n[i], row[i]), BAD);
            due("judge(" + n[i] + ", " + row[i] + ") without FOOD", new MapLife().judge(n[i], row[i]), BAD);
        }
        MapLife x = mapped("M9" + PLAINS);
        int rests = 0;
        for (int i = 1; i <= 6; i++) {
            rests = rests * 10 + 4;
            due("judge(" + i + ", " + rests + ")", x.judge(i, rests), NONE);
            due("judge(" + i + ", 0), up and up", x.judge(i, 0), 0);
        }
        x = mapped("M9" + PLAINS + "Db1Df1De1Da1");
        due("judge(6, 312031)", x.judge(6, 312031), NONE);
        due("judge(6, 130213)", x.judge(6, 130213), NONE);
        due("judge(2, 44)", x.judge(2, 44), NONE);
        due("judge(2, 4), up ahead of a REST", x.judge(2, 4), 0);
    }

    private static void judgedPlaces() {
        says("JUDGED: the place (from 0) of the first that can not be");
        MapLife x = mapped("M9" + PLAINS);
        int[] rows = {44444, 404444, 440444, 444044, 444404, 444440};
        for (int i = 0; i < 6; i++) {
            due("judge(6, " + rows[i] + ")", x.judge(6, rows[i]), i);
        }
        due("judge(6, 440000), the first of several", x.judge(6, 440000), 2);
        for (int food = 0; food <= 7; food++) {
            int want = food < 6 ? food : NONE;
            due("judge(6, 444444) with FOOD " + food, mapped("M" + food + PLAINS).judge(6, 444444), want);
        }
        due("judge(1, 3) into a ROCK by the map", mapped("M9" + PLAINS + "Db4").judge(1, 3), 0);
        due("judge(2, 43) into a BLANK", x.judge(2, 43), 1);
    }

    private static void judgedHarm() {
        says("JUDGED: or by which he has HARM; NONE: none");
        MapLife x = mapped("M9" + "040000000000" + "Db1De1");
        int[] rows = {344444, 434444, 443444, 444344, 444434, 444443};
        for (int i = 0; i < 6; i++) {
            due("judge(6, " + rows[i] + ")", x.judge(6, rows[i]), i);
        }
        due("judge(6, 443030), HARM ahead of what can not be", x.judge(6, 443030), 2);
        due("judge(6, 440343), what can not be ahead of HARM", x.judge(6, 440343), 2);
        x.go(3);
        due("about(3)", x.about(3), 1);
        due("judge(1, 4), HARM of old", x.judge(1, 4), NONE);
        due("judge(2, 43), HARM again", x.judge(2, 43), 1);
    }

    // ---- starts

    private static void dueStarts(MapLife x, int n, int row, int f, int bits) {
        due("starts(" + n + ", " + row + ", " + f + ")", x.starts(n, row, f), bits);
    }

    private static void startsBounds() {
        says("STARTS for a row of n WAYS (1 .. 5) and FOOD f at last (0 .. 30)");
        MapLife x = mapped("M9" + PLAINS + "Da1");
        int[] n = {0, 6, -1, LEAST, GREATEST, 1, 1, 1, 2, 2, 5, 5, 5};
        int[] row = {0, 444444, 4, 4, 4, 5, 10, -1, 45, 100, 44445, 100000, GREATEST};
        for (int i = 0; i < n.length; i++) {
            dueStarts(x, n[i], row[i], 0, BAD);
            dueStarts(new MapLife(), n[i], row[i], 0, BAD);
        }
        int[] f = {-1, 31, LEAST, GREATEST};
        for (int food : f) {
            dueStarts(x, 1, 4, food, BAD);
        }
        dueStarts(x, 5, 44444, 4, 1);
        dueStarts(x, 5, 44444, 5, 0);
        dueStarts(mapped("M1" + PLAINS + "Da1"), 1, 4, 0, 1);
        // FOOD 25 by eight SPRINGS; from CELL 4, a REST and three SPRINGS more: 30.
        x = mapped("M9111111111111Db1Dc1Dd1Dh1Dg1Df1De1Di1");
        int[] ways = {3, 3, 3, 1, 2, 2, 2, 1};
        for (int way : ways) {
            x.go(way);
        }
        due("about(2)", x.about(2), 25);
        dueStarts(x, 4, 4333, 30, 1 << 4);
        dueStarts(x, 4, 4333, 29, 0);
        dueStarts(x, 4, 3333, 31, BAD);
        due("he is where he was", x.about(1), 8);
    }

    private static void startsWhere() {
        says("STARTS: CELLS (bits) that are not BLANK, no ROCK by map or LAND");
        for (int cell = 0; cell < 12; cell++) {
            for (int land = 0; land < 5; land++) {
                for (int sort = 0; sort < 5; sort++) {
                    String text = "M9" + PLAINS.substring(0, cell) + land + PLAINS.substring(cell + 1);
                    MapLife x = mapped(text + (sort == 0 ? "" : "D" + (char) ('a' + cell) + sort));
                    boolean may = land < 4 && sort > 0 && sort < 4;
                    dueStarts(x, 1, 4, 8, may ? 1 << cell : 0);
                }
            }
        }
        dueStarts(mapped("M9" + PLAINS), 1, 4, 8, 0);
        dueStarts(mapped("M9" + PLAINS + "Da1Db2Dc3Dd1Di1Dj2Dk3Dl1"), 1, 4, 8, 0xf0f);
    }

    private static void startsAsItIsNow() {
        says("STARTS: with FOOD as it is now, nothing TAKEN");
        MapLife x = mapped("M6" + "110000000000" + "Da1Db1");
        x.go(3);
        due("about(2)", x.about(2), 8);
        due("about(4)", x.about(4), 2);
        // On CELL 0 he goes to the SPRING that he has TAKEN meanwhile; back to CELL 0 there is one more.
        dueStarts(x, 1, 3, 10, 1);
        dueStarts(x, 2, 32, 12, 1);
        dueStarts(x, 2, 23, 12, 2);
        dueStarts(x, 3, 323, 11, 1);
        x.rest();
        dueStarts(x, 1, 3, 9, 1);
        dueStarts(x, 1, 3, 10, 0);
    }

    private static void startsThatCanBe() {
        says("STARTS: so that the row can be, and FOOD is f at last");
        MapLife x = mapped("M2" + "000400000000" + "Db3Dc3Dd3");
        // From CELL 1 right, then against the ROCK: HARM, but it can be. From CELL 2 against it twice.
        dueStarts(x, 2, 33, 0, 2 + 4);
        dueStarts(x, 2, 32, 0, 2 + 4);
        dueStarts(x, 2, 22, 0, 0);
        dueStarts(x, 2, 44, 0, 2 + 4);
        dueStarts(x, 3, 444, 0, 0);
        dueStarts(mapped("M0" + PLAINS + "Db3Dc3"), 1, 4, 0, 0);
        dueStarts(new MapLife(), 1, 4, 0, 0);
    }

    // ---- share

    private static void dueShare(MapLife x, int cell, int above, int below) {
        due("share(" + cell + ", true)", x.share(cell, true), above);
        due("share(" + cell + ", false)", x.share(cell, false), below);
    }

    private static void shareOfNoSign() {
        says("SHARE: UNKNOWN; LATE: there is no SIGN");
        for (int cell = 0; cell < 12; cell++) {
            dueShare(mapped("M9111111111111"), cell, LATE, LATE);
        }
        dueShare(mapped("M9" + PLAINS + "Da1"), -1, UNKNOWN, UNKNOWN);
        dueShare(mapped("M9" + PLAINS + "Da1"), 12, UNKNOWN, UNKNOWN);
        dueShare(mapped("M9" + PLAINS + "Da4"), 0, 0, 1);
    }

    private static void shareOfOneAndOfEight() {
        says("SHARE: if SIGNS come one by one, in each order as likely");
        dueShare(mapped("M5" + "010000000000" + "Db1"), 1, 3, 1);
        // One of two like SPRINGS is enough for two DAYS: the first to come has all. Six are of no use.
        MapLife x = mapped("M5" + "010010000000" + "Db1De1Dd3Dg3Dh3Dj3Dk3Dl3");
        int[] none = {3, 6, 7, 9, 10, 11};
        dueShare(x, 1, 3, 2);
        dueShare(x, 4, 3, 2);
        for (int cell : none) {
            dueShare(x, cell, 0, 1);
        }
        // Seven others: each of the two SPRINGS on the way must have come for the one behind it.
        x = mapped("M5" + "011000000000" + "Db1Dc1Dd3Dg3Dh3Dj3Dk3Dl3");
        dueShare(x, 1, 9, 2);
        dueShare(x, 2, 3, 2);
        dueShare(x, 6, 0, 1);
        // The WOOD is worth 2 where it comes ahead of the SPRING, 0 behind it.
        x = mapped("M5" + "010020000000" + "Db1De2");
        dueShare(x, 1, 2, 1);
        dueShare(x, 4, 1, 1);
    }

    private static void shareOfTheFirstAndTheLastCell() {
        says("SHARE of a SIGN (by its CELL): those that have not come are BLANK");
        MapLife x = mapped("M5" + "110000000000" + "Da1Db1");
        x.go(3);
        dueShare(x, 0, 3, 1);
        dueShare(x, 1, 0, 1);
        x = mapped("M9" + "000000000001" + "De1Di1Dj1Dk1Dl1");
        x.go(1);
        x.go(1);
        x.go(3);
        x.go(3);
        due("about(1)", x.about(1), 10);
        dueShare(x, 11, 3, 1);
        dueShare(x, 10, 0, 1);
        dueShare(x, 4, 0, 1);
        // What he has TAKEN already is worth nothing, be it beside him.
        x.go(3);
        dueShare(x, 11, 0, 1);
        dueShare(x, 10, 0, 1);
    }

    private static void shareOfNone() {
        says("SHARE: by how much MOST for 2 is more when it has come than it was (none is 0)");
        dueShare(mapped("M1" + "010000000000" + "Db1"), 1, 2, 1);
        dueShare(mapped("M0" + "010000000000" + "Db1"), 1, 0, 1);
        // MOST is 0 with it and NONE without it: no more.
        dueShare(mapped("M1" + "030000000000" + "Db3"), 1, 0, 1);
        dueShare(mapped("M2" + PLAINS + "Db1"), 1, 1, 1);
    }

    private static void shareInLeastTerms() {
        says("SHARE: a FRACTION, in least terms");
        // Three like SPRINGS, two of them behind a HUT: shares by 3 and by 6.
        MapLife x = mapped("M9" + "010000000000" + "Da1Db1De1Dc1");
        int above = 0;
        for (int cell = 0; cell < 5; cell += cell == 2 ? 2 : 1) {
            int up = x.share(cell, true);
            int low = x.share(cell, false);
            due("below is more than 0", low > 0 ? 1 : 0, 1);
            for (int by = 2; by <= 24; by++) {
                due("share(" + cell + ") by " + by, up % by == 0 && low % by == 0 ? 1 : 0, 0);
            }
            due("24 can be shared by it", 24 % low, 0);
            above += up * (24 / low);
        }
        due("all shares in all", above, 24 * (x.most(2, false) - 7));
    }

    // ---- rests

    private static void restsAsked() {
        says("RESTS: how many (what = 0), the first one (1; NONE); BAD");
        int[] bad = {-1, 2, LEAST, GREATEST};
        for (int what : bad) {
            due("rests(" + what + ")", new MapLife().rests(what), BAD);
            due("rests(" + what + ") of a SIGN", mapped("M9" + PLAINS + "Da1").rests(what), BAD);
        }
    }

    private static void restsOfSigns() {
        says("RESTS: each 0 .. k; k is how many SIGNS there are, 4 at most");
        // With one SIGN or more there is always one who has more by another choice.
        String text = "M9" + PLAINS + "Da1Db1Dc1Dd1De1Df1Dg1Dh1";
        for (int k = 0; k <= 8; k++) {
            MapLife x = mapped(text.substring(0, 14 + 3 * k));
            due("rests(0) of " + k + " SIGNS", x.rests(0), pairsAtRest(Math.min(k, 4)));
            due("rests(0) of " + k + " SIGNS", x.rests(0), k == 0 ? 1 : 0);
            due("rests(1) of " + k + " SIGNS", x.rests(1), k == 0 ? 0 : NONE);
        }
    }

    private static int pairsAtRest(int k) {
        int pairs = 0;
        for (int pair = 0; pair < (k + 1) * (k + 1); pair++) {
            int l = pair / (k + 1);
            int f = pair % (k + 1);
            int better = 0;
            for (int other = 0; other <= k; other++) {
                better += 4 * seen(other, f, k) - other > 4 * seen(l, f, k) - l ? 1 : 0;
                better += 2 * other - 5 * seen(l, other, k) > 2 * f - 5 * seen(l, f, k) ? 1 : 0;
            }
            pairs += better == 0 ? 1 : 0;
        }
        return pairs;
    }

    private static int seen(int l, int f, int k) {
        return l + f < k ? 0 : l + f - k;
    }

    // ---- chance

    private static void dueChance(MapLife x, int[] call, int above, int below) {
        String name = "chance(" + call[0] + ", " + call[1] + ", " + call[2] + ", " + call[3] + ", ";
        due(name + "true)", x.chance(call[0], call[1], call[2], call[3], true), above);
        due(name + "false)", x.chance(call[0], call[1], call[2], call[3], false), below);
    }

    /** HUTS on plain land below and beside: each step is into an ERROR. */
    private static MapLife misled() {
        return mapped("M9" + PLAINS + "Da3Db3De3Df3");
    }

    private static void chanceBounds() {
        says("CHANCE: a row of n WAYS (1 .. 5); x tenths (0 .. 10); h times (0 .. 5)");
        int[][] bad = {{0, 0, 0, 0}, {6, 444444, 0, 0}, {-1, 4, 0, 0}, {LEAST, 4, 0, 0}, {GREATEST, 4, 0, 0},
            {1, 5, 0, 0}, {1, 10, 0, 0}, {1, -1, 0, 0}, {5, 44445, 0, 0}, {5, 100000, 0, 0}, {2, 50, 0, 0},
            {1, 4, -1, 0}, {1, 4, 6, 0}, {1, 4, LEAST, 0}, {1, 4, GREATEST, 0},
            {1, 4, 0, -1}, {1, 4, 0, 11}, {1, 4, 0, LEAST}, {1, 4, 0, GREATEST}};
        for (int[] call : bad) {
            dueChance(misled(), call, BAD, BAD);
            dueChance(new MapLife(), call, BAD, BAD);
        }
        for (int h = 0; h <= 5; h++) {
            for (int x = 0; x <= 10; x++) {
                dueChance(misled(), new int[] {1, 4, h, x}, 1, 1);
            }
        }
    }

    private static void chanceOfFalls() {
        says("CHANCE: that he falls h times at most");
        int[] above = {1, 3, 1, 13, 31, 1};
        int[] below = {32, 16, 2, 16, 32, 1};
        for (int h = 0; h <= 5; h++) {
            dueChance(misled(), new int[] {5, 32323, h, 5}, above[h], below[h]);
            dueChance(misled(), new int[] {5, 32323, h, 0}, 1, 1);
            dueChance(misled(), new int[] {5, 32323, h, 10}, h == 5 ? 1 : 0, 1);
        }
        dueChance(misled(), new int[] {5, 32323, 0, 9}, 1, 100000);
        dueChance(misled(), new int[] {5, 32323, 4, 1}, 99999, 100000);
        dueChance(misled(), new int[] {5, 32323, 4, 9}, 40951, 100000);
        dueChance(misled(), new int[] {5, 32323, 0, 1}, 59049, 100000);
        // More falls allowed than there can be.
        dueChance(misled(), new int[] {1, 3, 1, 10}, 1, 1);
        dueChance(misled(), new int[] {1, 3, 5, 7}, 1, 1);
        dueChance(misled(), new int[] {1, 3, 0, 7}, 3, 10);
        dueChance(misled(), new int[] {2, 34, 0, 4}, 3, 5);
    }

    private static void chanceOfNoRow() {
        says("CHANCE: 0, if the row can not be");
        dueChance(misled(), new int[] {1, 0, 5, 0}, 0, 1);
        dueChance(misled(), new int[] {5, 32320, 5, 0}, 0, 1);
        dueChance(misled(), new int[] {2, 0, 5, 10}, 0, 1);
        dueChance(new MapLife(), new int[] {1, 4, 5, 0}, 0, 1);
        dueChance(mapped("M1" + PLAINS), new int[] {2, 44, 5, 0}, 0, 1);
        dueChance(mapped("M2" + PLAINS), new int[] {2, 44, 0, 10}, 1, 1);
    }

    private static void chanceOnlyWhereItIsWrong() {
        says("CHANCE: each time he comes into a CELL in which the LAND is of another SORT than its SIGN");
        MapLife x = mapped("M9" + "010040000000" + "Da1Db1De1");
        dueChance(x, new int[] {1, 3, 0, 10}, 1, 1);
        dueChance(x, new int[] {2, 32, 0, 10}, 0, 1);
        dueChance(x, new int[] {2, 32, 0, 4}, 3, 5);
        // He stays on an ERROR, resting or against a ROCK: he does not come into it again.
        dueChance(x, new int[] {3, 324, 0, 4}, 3, 5);
        dueChance(x, new int[] {3, 321, 0, 4}, 3, 5);
        dueChance(x, new int[] {1, 1, 0, 10}, 1, 1);
        // Each coming counts, also into a CELL that is TAKEN.
        dueChance(misled(), new int[] {3, 323, 0, 5}, 1, 8);
    }

    // ---- seed and years

    private static void theSeed() {
        says("THE SEED, a long; 0 at first");
        long[] seeds = {Long.MIN_VALUE, Long.MAX_VALUE, -1, 1, 1L << 32, -(1L << 32), Integer.MIN_VALUE, 0};
        MapLife x = new MapLife();
        long was = 0;
        for (long v : seeds) {
            due("seed(" + v + ")", x.seed(v), was);
            was = v;
        }
        due("seed() last", x.seed(5), 0);
    }

    private static void theSeedWraps() {
        says("x becomes x times 6364136223846793005 and 1442695040888963407 (64 bits, wrapping)");
        long[] from = {0, 1, -1, 5, Long.MAX_VALUE, Long.MIN_VALUE};
        long[] once = {1442695040888963407L, 7806831264735756412L, -4921441182957829598L,
            -3630111987296174800L, 4301930853896946210L, -7780676995965812401L};
        long[] thirty = {-7345197285147560642L, -2067663220046591977L, 5824012723461022309L,
            595728966647731067L, -3399359313393753499L, 1878174751707215166L};
        for (int i = 0; i < from.length; i++) {
            MapLife x = new MapLife();
            x.seed(from[i]);
            x.years(1);
            due("seed() behind years(1) from " + from[i], x.seed(from[i]), once[i]);
            x.years(30);
            due("seed() behind years(30) from " + from[i], x.seed(from[i]), thirty[i]);
            x.years(29);
            x.years(1);
            due("seed() behind years(29) and years(1)", x.seed(0), thirty[i]);
        }
    }

    private static void upperBits() {
        says("what is left of its upper 31 bits by 5 is a WAY, or 4 a REST, if it can be (else nothing)");
        // On CELL 5: up is BLANK (nothing), down a WOOD, left a ROCK, right a SPRING.
        int[] foods = {9, 10, 108, 11, 8};
        // To 0; 2^33 - 1; 2^33; 5 * 2^33 - 1; -1; Long.MAX_VALUE; Long.MIN_VALUE; then small seeds.
        long[] seeds = {-7379792620528906219L, 4483922187169113968L, -84997745826115563L, -3230386461438826640L,
            -2810872687533676688L, 6412499349321099120L, 1843579416325869589L,
            12, 2, 4, 11, 0, 5, 7, 14, 1, 8};
        int[] ways = {0, 0, 1, 4, 2, 3, 4, 0, 0, 1, 1, 2, 2, 3, 3, 4, 4};
        for (int i = 0; i < seeds.length; i++) {
            MapLife x = mapped("M9" + "000040100200" + "Db1Df1De1Dj2Dg1");
            x.go(3);
            x.go(1);
            x.rub(1);
            due("about(2)", x.about(2), 9);
            x.seed(seeds[i]);
            due("years(1) by seed " + seeds[i], x.years(1), foods[ways[i]]);
            due("about(2)", x.about(2), 9);
            due("about(3)", x.about(3), 0);
        }
    }

    private static void yearsTold() {
        says("YEARS by THE SEED: m times (1 .. 30)");
        int[] bad = {0, 31, -1, LEAST, GREATEST};
        for (int m : bad) {
            MapLife x = mapped("M9" + PLAINS);
            x.seed(77);
            due("years(" + m + ")", x.years(m), BAD);
            due("seed() behind it", x.seed(0), 77);
        }
        // From seed 1 what is left is 431040024132204200202210434213: 4 is a REST, the others nothing.
        String left = "431040024132204200202210434213";
        for (int m = 1; m <= 30; m++) {
            MapLife x = mapped("M9" + PLAINS);
            x.seed(1);
            int food = 9;
            for (int i = 0; i < m; i++) {
                food -= left.charAt(i) == '4' ? 1 : 0;
            }
            due("years(" + m + ")", x.years(m), food);
        }
    }

    private static void yearsHarm() {
        says("YEARS: FOOD at last, and 100 times HARM that was more");
        // From seed -1 what is left is 3322420202320330..; right is a ROCK, so is down; up and left are no CELLS.
        MapLife x = mapped("M9" + "040040000000" + "Db1De1");
        x.go(3);
        due("about(3)", x.about(3), 1);
        x.seed(-1);
        due("years(2)", x.years(2), 206);
        x.seed(-1);
        due("years(5)", x.years(5), 205);
        x.seed(-1);
        due("years(16): 3 five times, 4 once", x.years(16), 100 * 5 + 8 - 5 - 1);
        due("about(3)", x.about(3), 1);
        due("about(2)", x.about(2), 8);
        // Without FOOD nothing is any more, but THE SEED goes on.
        x = new MapLife();
        x.seed(5);
        due("years(30) without FOOD", x.years(30), 0);
        due("seed()", x.seed(0), 595728966647731067L);
    }

    // ---- slots

    private static void twoSlots() {
        says("SLOTS 0 .. 1");
        int[] none = {-1, 2, 32, LEAST, GREATEST};
        for (int slot : none) {
            MapLife x = mapped("M9" + PLAINS + "Da1");
            due("keep(" + slot + ")", x.keep(slot), UNKNOWN);
            due("again(" + slot + ")", x.again(slot), UNKNOWN);
            due("again(0)", x.again(0), LATE);
            due("again(1)", x.again(1), LATE);
        }
        MapLife x = mapped("M9" + PLAINS + "Da1");
        due("keep(0) at THE DAY 0", x.keep(0), 0);
        due("again(1), none kept", x.again(1), LATE);
        x.rest();
        due("keep(1)", x.keep(1), 1);
        x.rest();
        due("again(0)", x.again(0), 0);
        due("again(1)", x.again(1), 1);
        due("again(0)", x.again(0), 0);
        due("about(2)", x.about(2), 9);
        x = mapped("M9" + PLAINS + "Da1");
        due("keep(1)", x.keep(1), 0);
        due("again(0), none kept", x.again(0), LATE);
        due("again(1)", x.again(1), 0);
    }

    private static void whatIsKept() {
        says("SLOTS keep SIGNS, where he is, FOOD, HARM, what is TAKEN, THE DAY (no ACTS when one goes on)");
        for (int slot = 0; slot < 2; slot++) {
            MapLife x = mapped("M9" + "000010040000" + "Da1Db1De1Dd2");
            x.go(1);
            x.go(0);
            x.draw(11, 4);
            x.rub(3);
            due("keep()", x.keep(slot), 2);
            due("about(7) behind keep()", x.about(7), 4);
            x.go(3);
            x.rest();
            x.draw(5, 1);
            x.rub(4);
            x.rub(11);
            due("keep() in the other", x.keep(1 - slot), 4);
            due("again()", x.again(slot), 2);
            int[] want = {4, 0, 9 - 1 + 3 - 1 + 1, 0, 17, 2, 1 + 2 + 2048, 0, 26};
            for (int what = 0; what < 9; what++) {
                due("about(" + what + ")", x.about(what), want[what]);
            }
            due("cell(3, 1)", x.cell(3, 1), 0);
            due("cell(4, 1)", x.cell(4, 1), 1);
            due("cell(5, 1)", x.cell(5, 1), 0);
            due("cell(11, 1)", x.cell(11, 1), 4);
            due("undo()", x.undo(), LATE);
            x.rest();
            due("undo() of what came behind", x.undo(), 0);
            due("again() of the other", x.again(1 - slot), 4);
            due("about(0)", x.about(0), 3);
            due("about(1)", x.about(1), 1);
            due("about(4)", x.about(4), 19);
        }
        // HARM too.
        MapLife x = mapped("M9" + "040000000000" + "Db1");
        x.go(3);
        x.keep(0);
        x.go(3);
        x.again(0);
        due("about(3)", x.about(3), 1);
        due("about(2)", x.about(2), 8);
    }

    private static void keptOnceMore() {
        says("They are kept: THE DAY; what was kept is gone by map(); THE SEED and THE TEXT are not kept");
        MapLife x = mapped("M9" + PLAINS + "Da1");
        x.keep(0);
        x.rest();
        due("keep(0) over it", x.keep(0), 1);
        x.rest();
        x.seed(8);
        x.write('D');
        due("again(0)", x.again(0), 1);
        due("about(8)", x.about(8), 18);
        due("seed()", x.seed(9), 8);
        x.wipe();
        due("again(0) behind wipe()", x.again(0), 1);
        due("map() with a FAULT", x.map(), LATE);
        due("again(0) behind a refused map()", x.again(0), 1);
        for (char letter : ("M3" + PLAINS).toCharArray()) {
            x.write(letter);
        }
        x.keep(1);
        due("map()", x.map(), 0);
        due("again(0) behind map()", x.again(0), LATE);
        due("again(1) behind map()", x.again(1), LATE);
        due("seed() behind map()", x.seed(0), 9);
        due("keep(1)", x.keep(1), 0);
        due("again(0), none kept", x.again(0), LATE);
        due("again(1)", x.again(1), 0);
    }

    public static void main(String[] args) {
        roadToWhereHeIs();
        roadByTheMap();
        roadTruly();
        roadRows();
        roadOfEight();
        noRoad();
        roadWithoutFood();
        mostDays();
        mostWithoutFood();
        mostOfLikeOnes();
        mostRows();
        mostRowsOfNDays();
        mendsDays();
        mendsNone();
        mendedToBlank();
        noneIsLessThanNothing();
        mendsOfLikeOnes();
        drawsDays();
        drawsNone();
        drawsOfLikeOnes();
        judgedRows();
        judgedPlaces();
        judgedHarm();
        startsBounds();
        startsWhere();
        startsAsItIsNow();
        startsThatCanBe();
        shareOfNoSign();
        shareOfOneAndOfEight();
        shareOfTheFirstAndTheLastCell();
        shareOfNone();
        shareInLeastTerms();
        restsAsked();
        restsOfSigns();
        chanceBounds();
        chanceOfFalls();
        chanceOfNoRow();
        chanceOnlyWhereItIsWrong();
        theSeed();
        theSeedWraps();
        upperBits();
        yearsTold();
        yearsHarm();
        twoSlots();
        whatIsKept();
        keptOnceMore();
        System.out.println(sentences + " sentences, " + asked + " answers asked, " + wrong + " not as due");
        if (wrong != 0) {
            System.exit(1);
        }
    }
}
