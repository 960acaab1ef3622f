import java.util.ArrayList;
import java.util.List;

/**
 * Each refusal of each promise, in each of some lives where it is due: that it is told, which one is
 * told of several, and that it changes nothing that a later call tells. So for what is only told, too.
 */
public final class EdgesOfRefusals {
    private static final int UNKNOWN = -1, BAD = -2, LATE = -3, FULL = -4, NONE = -9;
    private static final int LEAST = Integer.MIN_VALUE, GREATEST = Integer.MAX_VALUE;
    private static int asked = 0;
    private static int wrong = 0;

    private interface Call {
        long on(MapLife x);
    }

    private static void due(String call, long got, long want) {
        asked++;
        if (got != want) {
            wrong++;
            System.out.println(call + " answered " + got + ", due is " + want);
        }
    }

    // ---- lives

    private enum Lived {
        NEW, STARVED, YEAR, FULL_YEAR, GONE_ON
    }

    private static void write(MapLife x, String text) {
        for (int i = 0; i < text.length(); i++) {
            x.write(text.charAt(i));
        }
    }

    /** FOOD 0, two SIGNS, one of them an ERROR, and THE TEXT is a MAP still. */
    private static MapLife starved() {
        MapLife x = new MapLife();
        write(x, "M1020000000001Da1Db1");
        due("map()", x.map(), 2);
        due("rest()", x.rest(), 0);
        return x;
    }

    /** Nine ACTS of all kinds, HARM 1, both SLOTS, THE SEED 77, a FAULT at the end of THE TEXT. */
    private static MapLife year() {
        MapLife x = new MapLife();
        write(x, "M9011240000000Da1Db1Dc2De1Df3");
        due("map()", x.map(), 5);
        x.seed(77);
        due("go(3)", x.go(3), 1);
        due("keep(0)", x.keep(0), 1);
        due("rest()", x.rest(), 10);
        due("go(3)", x.go(3), 2);
        due("draw(6, 2)", x.draw(6, 2), 6);
        due("keep(1)", x.keep(1), 3);
        due("go(1)", x.go(1), 6);
        due("rub(0)", x.rub(0), 1);
        due("rest()", x.rest(), 9);
        due("go(2)", x.go(2), 5);
        due("go(2) against a ROCK", x.go(2), 5);
        due("write(68)", x.write(68), 30);
        due("about(7)", x.about(7), 9);
        return x;
    }

    /** Eight SIGNS, fourteen ACTS and one forgotten, THE TEXT of forty bytes, SLOT 1 alone. */
    private static MapLife fullYear() {
        MapLife x = new MapLife();
        write(x, "M9110040000000Da1Db1Dc2Dd3De1Df2Dg3Dh4");
        due("map()", x.map(), 8);
        write(x, "D3");
        x.seed(-5);
        due("go(3)", x.go(3), 1);
        for (int i = 0; i < 5; i++) {
            due("rub(7)", x.rub(7), i == 0 ? 4 : i);
            due("draw(7, " + (i + 1) + ")", i < 4 ? x.draw(7, i + 1) : x.draw(7, 4), 8);
        }
        due("go(3)", x.go(3), 2);
        due("go(2)", x.go(2), 1);
        due("rest()", x.rest(), 9 - 1 + 3 - 1 + 1 - 1 - 1);
        due("keep(1)", x.keep(1), 4);
        due("go(2)", x.go(2), 0);
        due("about(7)", x.about(7), 14);
        due("about(0)", x.about(0), 8);
        return x;
    }

    /** As year(), gone on from SLOT 0: no ACT is left. */
    private static MapLife goneOn() {
        MapLife x = year();
        due("again(0)", x.again(0), 1);
        due("about(7)", x.about(7), 0);
        return x;
    }

    private static MapLife lifeOf(Lived lived) {
        switch (lived) {
            case STARVED:
                return starved();
            case YEAR:
                return year();
            case FULL_YEAR:
                return fullYear();
            case GONE_ON:
                return goneOn();
            default:
                return new MapLife();
        }
    }

    // ---- what later calls tell

    private static void tellState(StringBuilder told, MapLife x) {
        for (int what = 0; what < 8; what++) {
            told.append(x.about(what)).append(' ');
        }
        for (int cell = 0; cell < 12; cell++) {
            told.append(x.cell(cell, 1));
        }
        told.append('\n');
    }

    /** All that the calls behind this one tell; the life is used up by it. */
    private static String later(MapLife x) {
        StringBuilder told = new StringBuilder();
        tellState(told, x);
        for (int cell = 0; cell < 12; cell++) {
            told.append(x.cell(cell, 0)).append(x.cell(cell, 2));
        }
        told.append(' ').append(x.about(8)).append(' ').append(x.fault());
        told.append(' ').append(x.most(4, true)).append(' ').append(x.mends(2)).append(' ').append(x.draws(2));
        told.append(' ').append(x.seed(99)).append('\n');
        for (int i = 0; i < 15; i++) {
            told.append(x.undo()).append(": ");
            tellState(told, x);
        }
        for (int slot = 0; slot < 2; slot++) {
            told.append(x.again(slot)).append(": ");
            tellState(told, x);
        }
        for (int i = 0; i < 2; i++) {
            told.append(x.write(68)).append(' ');
        }
        told.append(x.map()).append(' ').append(x.wipe()).append('\n');
        return told.toString();
    }

    /** The call answers this on such a life, and all that comes behind is as if it had not been made. */
    private static void nothingBy(String name, Lived lived, Call call, long want) {
        MapLife x = lifeOf(lived);
        due(name + " of " + lived, call.on(x), want);
        due(name + " of " + lived + " once more", call.on(x), want);
        String with = later(x);
        String without = later(lifeOf(lived));
        due(name + " of " + lived + " changes nothing", with.equals(without) ? 1 : 0, 1);
    }

    private static void anyLife(String name, Call call, long want) {
        for (Lived lived : Lived.values()) {
            nothingBy(name, lived, call, want);
        }
    }

    // ---- the map

    private static void refusedWrites() {
        int[] bad = {-1, 256, 256 + 77, LEAST, GREATEST};
        for (int letter : bad) {
            // Also where there are 40 bytes: BAD is told first.
            anyLife("write(" + letter + ")", x -> x.write(letter), BAD);
        }
        int[] letters = {0, 77, 255};
        for (int letter : letters) {
            nothingBy("write(" + letter + ")", Lived.FULL_YEAR, x -> x.write(letter), FULL);
        }
    }

    private static void refusedMaps() {
        nothingBy("map()", Lived.NEW, x -> x.map(), LATE);
        nothingBy("map()", Lived.YEAR, x -> x.map(), LATE);
        nothingBy("map()", Lived.FULL_YEAR, x -> x.map(), LATE);
        nothingBy("map()", Lived.GONE_ON, x -> x.map(), LATE);
        due("map() of STARVED", starved().map(), 2);
    }

    private static void refusedQuestions() {
        int[] none = {-1, 9, LEAST, GREATEST};
        for (int what : none) {
            anyLife("about(" + what + ")", x -> x.about(what), BAD);
        }
        int[] bad = {-1, 3, LEAST, GREATEST};
        for (int what : bad) {
            anyLife("cell(0, " + what + ")", x -> x.cell(0, what), BAD);
            anyLife("cell(11, " + what + ")", x -> x.cell(11, what), BAD);
            anyLife("cell(12, " + what + ")", x -> x.cell(12, what), UNKNOWN);
            anyLife("cell(-1, " + what + ")", x -> x.cell(-1, what), UNKNOWN);
        }
        anyLife("cell(-1, 0)", x -> x.cell(-1, 0), UNKNOWN);
        anyLife("cell(12, 2)", x -> x.cell(12, 2), UNKNOWN);
    }

    // ---- acts

    private static void refusedWays() {
        int[] none = {-1, 4, 5, LEAST, GREATEST};
        for (int way : none) {
            // Without FOOD, too: BAD is told first.
            anyLife("go(" + way + ")", x -> x.go(way), BAD);
        }
        for (int way = 0; way < 4; way++) {
            int to = way;
            nothingBy("go(" + way + ")", Lived.NEW, x -> x.go(to), LATE);
            nothingBy("go(" + way + ")", Lived.STARVED, x -> x.go(to), LATE);
        }
        nothingBy("go(1) into a BLANK", Lived.YEAR, x -> x.go(1), LATE);
        nothingBy("go(0) out of the land", Lived.FULL_YEAR, x -> x.go(0), LATE);
        nothingBy("go(2) out of the land", Lived.FULL_YEAR, x -> x.go(2), LATE);
        nothingBy("go(0) out of the land", Lived.GONE_ON, x -> x.go(0), LATE);
        nothingBy("rest()", Lived.NEW, x -> x.rest(), LATE);
        nothingBy("rest()", Lived.STARVED, x -> x.rest(), LATE);
    }

    private static void refusedDrawings() {
        int[] cells = {-1, 12, LEAST, GREATEST};
        int[] sorts = {0, 5, -1, LEAST, GREATEST};
        for (int cell : cells) {
            anyLife("draw(" + cell + ", 1)", x -> x.draw(cell, 1), UNKNOWN);
            anyLife("draw(" + cell + ", 0)", x -> x.draw(cell, 0), UNKNOWN);
            anyLife("rub(" + cell + ")", x -> x.rub(cell), UNKNOWN);
        }
        for (int sort : sorts) {
            // On a BLANK CELL, on one that is drawn, and with eight SIGNS: BAD is told first.
            anyLife("draw(11, " + sort + ")", x -> x.draw(11, sort), BAD);
            anyLife("draw(1, " + sort + ")", x -> x.draw(1, sort), BAD);
        }
        Lived[] drawn = {Lived.STARVED, Lived.YEAR, Lived.FULL_YEAR, Lived.GONE_ON};
        for (Lived lived : drawn) {
            // With eight SIGNS, too: LATE is told first.
            nothingBy("draw(1, 1)", lived, x -> x.draw(1, 1), LATE);
            nothingBy("draw(1, 4)", lived, x -> x.draw(1, 4), LATE);
            nothingBy("rub(11)", lived, x -> x.rub(11), LATE);
        }
        for (int cell = 8; cell < 12; cell++) {
            int blank = cell;
            nothingBy("draw(" + cell + ", 4)", Lived.FULL_YEAR, x -> x.draw(blank, 4), FULL);
        }
        for (int cell = 0; cell < 12; cell++) {
            int blank = cell;
            nothingBy("rub(" + cell + ")", Lived.NEW, x -> x.rub(blank), LATE);
        }
        nothingBy("rub(0) where he is", Lived.STARVED, x -> x.rub(0), LATE);
        nothingBy("rub(5) where he is", Lived.YEAR, x -> x.rub(5), LATE);
        nothingBy("rub(0) where he is", Lived.FULL_YEAR, x -> x.rub(0), LATE);
        nothingBy("rub(1) where he is", Lived.GONE_ON, x -> x.rub(1), LATE);
        nothingBy("undo()", Lived.NEW, x -> x.undo(), LATE);
        nothingBy("undo()", Lived.GONE_ON, x -> x.undo(), LATE);
    }

    // ---- roads, food

    private static void refusedCells() {
        int[] cells = {-1, 12, LEAST, GREATEST};
        for (int cell : cells) {
            anyLife("road(" + cell + ", false, false)", x -> x.road(cell, false, false), UNKNOWN);
            anyLife("road(" + cell + ", true, true)", x -> x.road(cell, true, true), UNKNOWN);
            anyLife("share(" + cell + ", true)", x -> x.share(cell, true), UNKNOWN);
            anyLife("share(" + cell + ", false)", x -> x.share(cell, false), UNKNOWN);
        }
        anyLife("share(11, true)", x -> x.share(11, true), LATE);
        anyLife("share(11, false)", x -> x.share(11, false), LATE);
        nothingBy("share(0, true)", Lived.YEAR, x -> x.share(0, true), LATE);
    }

    private static void refusedDays() {
        int[] below = {0, -1, LEAST};
        for (int n : below) {
            anyLife("most(" + n + ")", x -> x.most(n, n == 0), BAD);
            anyLife("mends(" + n + ")", x -> x.mends(n), BAD);
            anyLife("draws(" + n + ")", x -> x.draws(n), BAD);
            anyLife("judge(" + n + ", 4)", x -> x.judge(n, 4), BAD);
            anyLife("judge(" + n + ", 0)", x -> x.judge(n, 0), BAD);
            anyLife("starts(" + n + ", 4, 0)", x -> x.starts(n, 4, 0), BAD);
            anyLife("starts(" + n + ", 0, 0)", x -> x.starts(n, 0, 0), BAD);
            anyLife("chance(" + n + ", 4, 0, 0)", x -> x.chance(n, 4, 0, 0, true), BAD);
            anyLife("chance(" + n + ", 0, 0, 0)", x -> x.chance(n, 0, 0, 0, false), BAD);
            anyLife("years(" + n + ")", x -> x.years(n), BAD);
        }
        int[] above = {0, 1, GREATEST - 7};
        for (int over : above) {
            anyLife("most(" + (6 + over) + ")", x -> x.most(6 + over, over == 0), BAD);
            anyLife("mends(" + (5 + over) + ")", x -> x.mends(5 + over), BAD);
            anyLife("draws(" + (4 + over) + ")", x -> x.draws(4 + over), BAD);
            anyLife("judge(" + (7 + over) + ", 4444444)", x -> x.judge(7 + over, 4444444), BAD);
            anyLife("judge(" + (7 + over) + ", 4)", x -> x.judge(7 + over, 4), BAD);
            anyLife("starts(" + (6 + over) + ", 444444, 0)", x -> x.starts(6 + over, 444444, 0), BAD);
            anyLife("starts(" + (6 + over) + ", 4, 0)", x -> x.starts(6 + over, 4, 0), BAD);
            anyLife("chance(" + (6 + over) + ", 4, 0, 0)", x -> x.chance(6 + over, 4, 0, 0, true), BAD);
        }
        int[] years = {31, 32, GREATEST};
        for (int m : years) {
            anyLife("years(" + m + ")", x -> x.years(m), BAD);
        }
    }

    private static void refusedRows() {
        int[] n = {1, 1, 1, 1, 2, 2, 2, 3, 3, 5, 5, 5, 5, 1, 5};
        int[] row = {5, 9, 10, -1, 5, 50, 100, 151, 1000, 44445, 54444, 100000, -44444, LEAST, GREATEST};
        for (int i = 0; i < n.length; i++) {
            int days = n[i];
            int ways = row[i];
            String call = "(" + days + ", " + ways + ")";
            anyLife("judge" + call, x -> x.judge(days, ways), BAD);
            anyLife("starts" + call, x -> x.starts(days, ways, 5), BAD);
            anyLife("chance" + call, x -> x.chance(days, ways, 0, 0, true), BAD);
            anyLife("chance lower" + call, x -> x.chance(days, ways, 5, 10, false), BAD);
        }
        anyLife("judge(6, 444445)", x -> x.judge(6, 444445), BAD);
        anyLife("judge(6, 1000000)", x -> x.judge(6, 1000000), BAD);
        int[] foods = {-1, 31, LEAST, GREATEST};
        for (int f : foods) {
            anyLife("starts(1, 4, " + f + ")", x -> x.starts(1, 4, f), BAD);
        }
        int[] falls = {-1, 6, LEAST, GREATEST};
        int[] tenths = {-1, 11, LEAST, GREATEST};
        for (int i = 0; i < 4; i++) {
            int h = falls[i];
            int tenth = tenths[i];
            anyLife("chance(1, 4, " + h + ", 0)", x -> x.chance(1, 4, h, 0, true), BAD);
            anyLife("chance(1, 4, 0, " + tenth + ")", x -> x.chance(1, 4, 0, tenth, false), BAD);
        }
        int[] what = {-1, 2, LEAST, GREATEST};
        for (int w : what) {
            anyLife("rests(" + w + ")", x -> x.rests(w), BAD);
        }
    }

    // ---- slots

    private static void refusedSlots() {
        int[] slots = {-1, 2, 3, 32, 33, LEAST, GREATEST};
        for (int slot : slots) {
            // Also where none was kept: UNKNOWN is told first.
            anyLife("keep(" + slot + ")", x -> x.keep(slot), UNKNOWN);
            anyLife("again(" + slot + ")", x -> x.again(slot), UNKNOWN);
        }
        nothingBy("again(0)", Lived.NEW, x -> x.again(0), LATE);
        nothingBy("again(1)", Lived.NEW, x -> x.again(1), LATE);
        nothingBy("again(0)", Lived.STARVED, x -> x.again(0), LATE);
        nothingBy("again(1)", Lived.STARVED, x -> x.again(1), LATE);
        nothingBy("again(0), only the other kept", Lived.FULL_YEAR, x -> x.again(0), LATE);
    }

    // ---- what is only told

    private static List<Call> questions() {
        List<Call> all = new ArrayList<>();
        all.add(x -> x.fault());
        for (int i = 0; i < 9; i++) {
            int what = i;
            all.add(x -> x.about(what));
        }
        for (int i = 0; i < 12; i++) {
            int cell = i;
            all.add(x -> x.cell(cell, cell % 3));
            all.add(x -> x.road(cell, true, true));
            all.add(x -> x.road(cell, false, false));
            all.add(x -> x.share(cell, cell % 2 == 0));
        }
        for (int i = 1; i < 6; i++) {
            int n = i;
            all.add(x -> x.most(n, true));
            all.add(x -> x.most(n, false));
            all.add(x -> x.mends(n));
            all.add(x -> x.draws(n));
            all.add(x -> x.judge(n, n % 4));
            all.add(x -> x.judge(n, 4 * n % 5));
            all.add(x -> x.starts(n, 4, 8));
            all.add(x -> x.chance(n, 3, n, 5, true));
        }
        all.add(x -> x.rests(0));
        all.add(x -> x.rests(1));
        return all;
    }

    private static void toldOnly() {
        List<Call> all = questions();
        for (int i = 0; i < all.size(); i++) {
            for (Lived lived : Lived.values()) {
                Call call = all.get(i);
                nothingBy("question " + i, lived, call, call.on(lifeOf(lived)));
            }
        }
    }

    /** (Nothing changes but THE SEED.) */
    private static void yearsChangeTheSeedAlone() {
        for (Lived lived : Lived.values()) {
            MapLife x = lifeOf(lived);
            long was = x.seed(5);
            x.years(30);
            due("seed() behind years(30) of " + lived, x.seed(was), 595728966647731067L);
            due("years(30) changes nothing else in " + lived, later(x).equals(later(lifeOf(lived))) ? 1 : 0, 1);
        }
    }

    /** What NONE is told of is refused in nothing. */
    private static void nothingToTell() {
        due("most(1) of NEW", new MapLife().most(1, false), NONE);
        due("mends(1) of NEW", new MapLife().mends(1), NONE);
        due("draws(1) of NEW", new MapLife().draws(1), NONE);
        due("draws(1) of FULL_YEAR", fullYear().draws(1), NONE);
        due("draws(4) of FULL_YEAR: BAD first", fullYear().draws(4), BAD);
        due("road(1) of NEW", new MapLife().road(1, false, true), NONE);
        due("fault() of STARVED", starved().fault(), NONE);
        due("rests(1) of YEAR", year().rests(1), NONE);
    }

    public static void main(String[] args) {
        refusedWrites();
        refusedMaps();
        refusedQuestions();
        refusedWays();
        refusedDrawings();
        refusedCells();
        refusedDays();
        refusedRows();
        refusedSlots();
        toldOnly();
        yearsChangeTheSeedAlone();
        nothingToTell();
        System.out.println(asked + " answers asked, " + wrong + " not as due");
        if (wrong != 0) {
            System.exit(1);
        }
    }
}
