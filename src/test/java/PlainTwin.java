import java.util.ArrayDeque;
import java.util.ArrayList;
import java.util.Arrays;
import java.util.Deque;
import java.util.List;
import java.util.Random;

/**
 * A second program of the same document, made as plainly as can be (every row, every order, every
 * fall is gone through), and long runs of calls on both, which must answer alike.
 */
public final class PlainTwin {
    private static final int UNKNOWN = -1, BAD = -2, LATE = -3, FULL = -4, NONE = -9;
    /** What an object answers behind so many calls is free. */
    private static final int MOST_CALLS = 512;
    private static final int[] GOOD = {0, 3, 2, 1, 0};

    /** Where the master is and what he has. */
    private static final class State implements Cloneable {
        int[] sign = new int[12];
        int place, food, harm, day;
        boolean[] taken = new boolean[12];

        State copy() {
            State c = new State();
            c.sign = sign.clone();
            c.taken = taken.clone();
            c.place = place;
            c.food = food;
            c.harm = harm;
            c.day = day;
            return c;
        }
    }

    private String text = "";
    private int[] land = new int[12];
    private State s = new State();
    private Deque<State> acts = new ArrayDeque<>();
    private State[] slots = new State[2];
    private long seed = 0;

    // ---- the text

    private static boolean isMap(String t) {
        if (!t.matches("(?s)M[0-9][0-4]{12}(D[a-l][1-4]){0,8}")) {
            return false;
        }
        StringBuilder told = new StringBuilder();
        for (int i = 15; i < t.length(); i += 3) {
            if (told.indexOf(t.substring(i, i + 1)) >= 0) {
                return false;
            }
            told.append(t.charAt(i));
        }
        return true;
    }

    private static boolean canBecomeMap(String t) {
        if (t.length() < 14) {
            return isMap(t + "M0000000000000".substring(t.length()));
        }
        if (isMap(t)) {
            return true;
        }
        for (char c = 'a'; c <= 'l'; c++) {
            String sign = "D" + c + "1";
            for (int i = 1; i < 3; i++) {
                if (isMap(t + sign.substring(i))) {
                    return true;
                }
            }
        }
        return false;
    }

    int fault() {
        for (int i = 0; i < text.length(); i++) {
            if (!canBecomeMap(text.substring(0, i + 1))) {
                return i;
            }
        }
        return isMap(text) ? NONE : text.length();
    }

    int write(int letter) {
        if (letter < 0 || letter > 255) {
            return BAD;
        }
        if (text.length() == 40) {
            return FULL;
        }
        text += (char) letter;
        return text.length();
    }

    int wipe() {
        int was = text.length();
        text = "";
        return was;
    }

    int map() {
        if (fault() != NONE) {
            return LATE;
        }
        s = new State();
        s.food = text.charAt(1) - '0';
        for (int c = 0; c < 12; c++) {
            land[c] = text.charAt(2 + c) - '0';
        }
        for (int i = 14; i < text.length(); i += 3) {
            s.sign[text.charAt(i + 1) - 'a'] = text.charAt(i + 2) - '0';
        }
        acts.clear();
        slots = new State[2];
        return signs(s);
    }

    // ---- what stands

    private static int signs(State t) {
        int n = 0;
        for (int x : t.sign) {
            n += x > 0 ? 1 : 0;
        }
        return n;
    }

    private boolean wrong(State t, int c) {
        return t.sign[c] != 0 && t.sign[c] != land[c];
    }

    private int good(State t, int c) {
        return wrong(t, c) ? GOOD[t.sign[c]] / 2 : GOOD[t.sign[c]];
    }

    int about(int what) {
        int bits = 0;
        switch (what) {
            case 0: return signs(s);
            case 1: return s.place;
            case 2: return s.food;
            case 3: return s.harm;
            case 4:
                for (int c = 0; c < 12; c++) {
                    bits += s.taken[c] ? 1 << c : 0;
                }
                return bits;
            case 5: return s.day;
            case 6:
                for (int c = 0; c < 12; c++) {
                    bits += wrong(s, c) ? 1 << c : 0;
                }
                return bits;
            case 7: return acts.size();
            case 8: return text.length();
            default: return BAD;
        }
    }

    int cell(int c, int what) {
        if (c < 0 || c > 11) {
            return UNKNOWN;
        }
        return what == 0 ? land[c] : what == 1 ? s.sign[c] : what == 2 ? good(s, c) : BAD;
    }

    // ---- acts

    private static int to(int c, int way) {
        int row = c / 4 + (way == 0 ? -1 : way == 1 ? 1 : 0);
        int column = c % 4 + (way == 2 ? -1 : way == 3 ? 1 : 0);
        return row < 0 || row > 2 || column < 0 || column > 3 ? -1 : 4 * row + column;
    }

    /** The state a day later, or null. */
    private State later(State t, int way) {
        if (t.food == 0) {
            return null;
        }
        State u = t.copy();
        u.food--;
        u.day++;
        if (way == 4) {
            return u;
        }
        int c = to(t.place, way);
        if (c < 0 || t.sign[c] == 0 || t.sign[c] == 4) {
            return null;
        }
        if (land[c] == 4) {
            u.harm++;
            return u;
        }
        u.place = c;
        if (!u.taken[c]) {
            u.food += good(t, c);
            u.taken[c] = true;
        }
        return u;
    }

    private void act(State next) {
        acts.addLast(s);
        if (acts.size() > 14) {
            acts.removeFirst();
        }
        s = next;
    }

    int go(int way) {
        if (way < 0 || way > 3) {
            return BAD;
        }
        State u = later(s, way);
        if (u == null) {
            return LATE;
        }
        act(u);
        return s.place;
    }

    int rest() {
        State u = later(s, 4);
        if (u == null) {
            return LATE;
        }
        act(u);
        return s.food;
    }

    int draw(int c, int sort) {
        if (c < 0 || c > 11) {
            return UNKNOWN;
        }
        if (sort < 1 || sort > 4) {
            return BAD;
        }
        if (s.sign[c] != 0) {
            return LATE;
        }
        if (signs(s) == 8) {
            return FULL;
        }
        State u = s.copy();
        u.sign[c] = sort;
        act(u);
        return signs(s);
    }

    int rub(int c) {
        if (c < 0 || c > 11) {
            return UNKNOWN;
        }
        if (s.sign[c] == 0 || s.place == c) {
            return LATE;
        }
        int was = s.sign[c];
        State u = s.copy();
        u.sign[c] = 0;
        act(u);
        return was;
    }

    int undo() {
        if (acts.isEmpty()) {
            return LATE;
        }
        s = acts.removeLast();
        return acts.size();
    }

    // ---- roads, food

    int road(int cell, boolean truly, boolean row) {
        if (cell < 0 || cell > 11) {
            return UNKNOWN;
        }
        // The least row of each length to each cell.
        long[] least = new long[12];
        Arrays.fill(least, -1);
        least[s.place] = 1;
        for (int steps = 0; steps < 14; steps++) {
            if (least[cell] >= 0) {
                return !row ? steps : steps > 8 ? NONE : (int) least[cell];
            }
            long[] next = new long[12];
            Arrays.fill(next, -1);
            for (int c = 0; c < 12; c++) {
                for (int w = 0; w < 4 && least[c] >= 0; w++) {
                    int d = to(c, w);
                    boolean may = d >= 0 && s.sign[d] != 0 && s.sign[d] != 4 && (!truly || land[d] != 4);
                    if (may && (next[d] < 0 || least[c] * 10 + w < next[d])) {
                        next[d] = least[c] * 10 + w;
                    }
                }
            }
            least = next;
        }
        return NONE;
    }

    private static int[] figures(int n, int row) {
        String all = String.format("%0" + n + "d", row);
        if (row < 0 || all.length() != n) {
            return null;
        }
        int[] ways = new int[n];
        for (int i = 0; i < n; i++) {
            ways[i] = all.charAt(i) - '0';
            if (ways[i] > 4) {
                return null;
            }
        }
        return ways;
    }

    private State after(State t, int[] ways) {
        State u = t;
        for (int w : ways) {
            u = u == null ? null : later(u, w);
        }
        return u;
    }

    /** FOOD and row, by every number of n figures there is. */
    private int[] mostOf(State t, int n) {
        int[] best = {NONE, NONE};
        int all = (int) Math.pow(5, n);
        for (int i = 0; i < all; i++) {
            int row = Integer.parseInt(Integer.toString(i, 5));
            State u = after(t, figures(n, row));
            if (u != null && u.food > best[0]) {
                best = new int[] {u.food, (int) Math.pow(10, n) + row};
            }
        }
        return best;
    }

    int most(int n, boolean row) {
        return n < 1 || n > 5 ? BAD : mostOf(s, n)[row ? 1 : 0];
    }

    private int bestOf(List<Integer> cells, int n) {
        int best = NONE;
        int most = -100;
        for (int c : cells) {
            State u = s.copy();
            u.sign[c] = land[c];
            int food = mostOf(u, n)[0];
            if (food > most) {
                most = food;
                best = c;
            }
        }
        return best;
    }

    int mends(int n) {
        if (n < 1 || n > 4) {
            return BAD;
        }
        List<Integer> cells = new ArrayList<>();
        for (int c = 0; c < 12; c++) {
            if (wrong(s, c) && c != s.place) {
                cells.add(c);
            }
        }
        return bestOf(cells, n);
    }

    int draws(int n) {
        if (n < 1 || n > 3) {
            return BAD;
        }
        List<Integer> cells = new ArrayList<>();
        for (int c = 0; c < 12; c++) {
            if (s.sign[c] == 0 && land[c] != 0) {
                cells.add(c);
            }
        }
        return signs(s) == 8 ? NONE : bestOf(cells, n);
    }

    int judge(int n, int row) {
        if (n < 1 || n > 6 || figures(n, row) == null) {
            return BAD;
        }
        State u = s;
        int[] ways = figures(n, row);
        for (int i = 0; i < n; i++) {
            State v = later(u, ways[i]);
            if (v == null || v.harm != u.harm) {
                return i;
            }
            u = v;
        }
        return NONE;
    }

    int starts(int n, int row, int f) {
        if (n < 1 || n > 5 || figures(n, row) == null || f < 0 || f > 30) {
            return BAD;
        }
        int bits = 0;
        for (int c = 0; c < 12; c++) {
            if (s.sign[c] != 0 && s.sign[c] != 4 && land[c] != 4) {
                State u = s.copy();
                u.place = c;
                u.taken = new boolean[12];
                u = after(u, figures(n, row));
                bits += u != null && u.food == f ? 1 << c : 0;
            }
        }
        return bits;
    }

    private static long gcd(long a, long b) {
        return b == 0 ? a : gcd(b, a % b);
    }

    private static int part(long above, long below, boolean upper) {
        long g = gcd(Math.abs(above), below);
        return (int) ((upper ? above : below) / g);
    }

    private long shareSum;
    private long shareOrders;
    private int[] shareKnown;

    private int two(int bits) {
        if (shareKnown[bits] == Integer.MIN_VALUE) {
            State u = s.copy();
            for (int c = 0; c < 12; c++) {
                if ((bits & 1 << c) == 0) {
                    u.sign[c] = 0;
                }
            }
            int food = mostOf(u, 2)[0];
            shareKnown[bits] = food == NONE ? 0 : food;
        }
        return shareKnown[bits];
    }

    private void orders(int cell, List<Integer> left, int come) {
        if (left.isEmpty()) {
            shareOrders++;
        }
        for (int i = 0; i < left.size(); i++) {
            List<Integer> others = new ArrayList<>(left);
            int c = others.remove(i);
            if (c == cell) {
                long behind = 1;
                for (int j = 2; j <= others.size(); j++) {
                    behind *= j;
                }
                shareSum += behind * (two(come | 1 << c) - two(come));
            }
            orders(cell, others, come | 1 << c);
        }
    }

    int share(int cell, boolean upper) {
        if (cell < 0 || cell > 11) {
            return UNKNOWN;
        }
        if (s.sign[cell] == 0) {
            return LATE;
        }
        List<Integer> all = new ArrayList<>();
        for (int c = 0; c < 12; c++) {
            if (s.sign[c] != 0) {
                all.add(c);
            }
        }
        shareSum = 0;
        shareOrders = 0;
        shareKnown = new int[1 << 12];
        Arrays.fill(shareKnown, Integer.MIN_VALUE);
        orders(cell, all, 0);
        return part(shareSum, shareOrders, upper);
    }

    // ---- rests, chances

    int rests(int what) {
        if (what != 0 && what != 1) {
            return BAD;
        }
        int k = Math.min(4, signs(s));
        int[][] guild = new int[5][5];
        int[][] master = new int[5][5];
        for (int l = 0; l <= k; l++) {
            for (int f = 0; f <= k; f++) {
                int seen = l + f - k < 0 ? 0 : l + f - k;
                guild[l][f] = 4 * seen - l;
                master[l][f] = 2 * f - 5 * seen;
            }
        }
        List<Integer> found = new ArrayList<>();
        for (int l = 0; l <= k; l++) {
            for (int f = 0; f <= k; f++) {
                boolean stays = true;
                for (int o = 0; o <= k; o++) {
                    stays &= guild[o][f] <= guild[l][f] && master[l][o] <= master[l][f];
                }
                if (stays) {
                    found.add(10 * l + f);
                }
            }
        }
        return what == 0 ? found.size() : found.isEmpty() ? NONE : found.get(0);
    }

    int chance(int n, int row, int h, int x, boolean upper) {
        if (n < 1 || n > 5 || figures(n, row) == null || h < 0 || h > 5 || x < 0 || x > 10) {
            return BAD;
        }
        State u = s;
        int times = 0;
        for (int w : figures(n, row)) {
            State v = later(u, w);
            if (v == null) {
                return upper ? 0 : 1;
            }
            if (w != 4 && v.harm == u.harm && wrong(v, v.place)) {
                times++;
            }
            u = v;
        }
        long above = 0;
        long below = 1;
        for (int i = 0; i < times; i++) {
            below *= 10;
        }
        for (int falls = 0; falls < 1 << times; falls++) {
            long likely = 1;
            int count = 0;
            for (int i = 0; i < times; i++) {
                boolean fell = (falls & 1 << i) != 0;
                likely *= fell ? x : 10 - x;
                count += fell ? 1 : 0;
            }
            above += count <= h ? likely : 0;
        }
        return part(above, below, upper);
    }

    long seed(long v) {
        long was = seed;
        seed = v;
        return was;
    }

    int years(int m) {
        if (m < 1 || m > 30) {
            return BAD;
        }
        State u = s;
        for (int i = 0; i < m; i++) {
            seed = seed * 6364136223846793005L + 1442695040888963407L;
            long upper = seed >> 33 & 0x7fffffffL;
            State v = later(u, (int) (upper % 5));
            u = v == null ? u : v;
        }
        return u.food + 100 * (u.harm - s.harm);
    }

    // ---- slots

    int keep(int slot) {
        if (slot < 0 || slot > 1) {
            return UNKNOWN;
        }
        slots[slot] = s;
        return s.day;
    }

    int again(int slot) {
        if (slot < 0 || slot > 1) {
            return UNKNOWN;
        }
        if (slots[slot] == null) {
            return LATE;
        }
        s = slots[slot];
        acts.clear();
        return s.day;
    }

    // ---- runs on both

    private static Random dice;
    private static int wrongs;
    private static long calls;

    private static int any(int from, int to) {
        return from + dice.nextInt(to - from + 1);
    }

    /** Mostly within the bounds, at times about them, seldom far off. */
    private static int near(int from, int to) {
        int kind = any(0, 19);
        if (kind == 0) {
            return any(0, 1) == 0 ? from - 1 : to + 1;
        }
        if (kind == 1 && any(0, 3) == 0) {
            int[] far = {Integer.MIN_VALUE, Integer.MAX_VALUE, -7, 64, 32, 1 << 20};
            return far[any(0, far.length - 1)];
        }
        return any(from, to);
    }

    private static int anyRow(int n) {
        int row = 0;
        for (int i = 0; i < Math.max(0, Math.min(n, 9)); i++) {
            row = row * 10 + (any(0, 60) == 0 ? any(5, 9) : any(0, 4));
        }
        return any(0, 40) == 0 ? row + near(-1, 1000000) : row;
    }

    /** A row that mostly can be, for the state that stands. */
    private static int liveRow(PlainTwin twin, int n) {
        State u = twin.s;
        int row = 0;
        for (int i = 0; i < Math.min(n, 9); i++) {
            int way = any(0, 4);
            for (int j = 0; j < 6 && u != null && twin.later(u, way) == null; j++) {
                way = any(0, 4);
            }
            u = u == null ? null : twin.later(u, way);
            row = row * 10 + way;
        }
        return row;
    }

    private static String anyMap(int most) {
        StringBuilder t = new StringBuilder("M").append(any(0, 9));
        int rocks = any(0, 1);
        for (int c = 0; c < 12; c++) {
            t.append(any(0, 3 + rocks));
        }
        List<Character> cells = new ArrayList<>();
        for (char c = 'a'; c <= 'l'; c++) {
            cells.add(c);
        }
        for (int i = any(0, most); i > 0; i--) {
            char c = cells.remove(any(0, cells.size() - 1));
            t.append('D').append(c);
            boolean right = any(0, 1) == 0 && t.charAt(2 + c - 'a') != '0';
            t.append(right ? t.charAt(2 + c - 'a') : (char) ('0' + Math.min(4, any(1, 5))));
        }
        if (any(0, 9) == 0) {
            t.setCharAt(any(0, t.length() - 1), (char) any(0, 255));
        }
        if (any(0, 9) == 0) {
            t.setLength(any(0, t.length()));
        }
        if (any(0, 9) == 0) {
            t.append("DaDl9M".charAt(any(0, 5)));
        }
        return t.toString();
    }

    private static void same(long seed, String call, long got, long want) {
        calls++;
        if (got != want) {
            wrongs++;
            System.out.println("seed " + seed + ": " + call + " answered " + got + ", the twin " + want);
        }
    }

    private static void look(long g, MapLife a, PlainTwin b) {
        for (int i = 0; i < 9; i++) {
            same(g, "about(" + i + ")", a.about(i), b.about(i));
        }
        for (int c = 0; c < 12; c++) {
            for (int i = 0; i < 3; i++) {
                same(g, "cell(" + c + ", " + i + ")", a.cell(c, i), b.cell(c, i));
            }
        }
    }

    private static void newMap(long g, MapLife a, PlainTwin b, int most) {
        same(g, "wipe", a.wipe(), b.wipe());
        for (char c : anyMap(most).toCharArray()) {
            same(g, "write(" + (int) c + ")", a.write(c), b.write(c));
            if (any(0, 5) == 0) {
                same(g, "fault", a.fault(), b.fault());
            }
        }
        same(g, "fault of " + b.text, a.fault(), b.fault());
        same(g, "map of " + b.text, a.map(), b.map());
        look(g, a, b);
    }

    private static void actCall(long g, MapLife a, PlainTwin b) {
        int x = near(0, 3);
        int c = near(0, 11);
        int t = near(1, 4);
        switch (any(0, 9)) {
            case 0: case 1: case 2: case 3:
                same(g, "go " + x, a.go(x), b.go(x));
                break;
            case 4:
                same(g, "rest", a.rest(), b.rest());
                break;
            case 5: case 6:
                same(g, "draw " + c + " " + t, a.draw(c, t), b.draw(c, t));
                break;
            case 7:
                same(g, "rub " + c, a.rub(c), b.rub(c));
                break;
            case 8:
                same(g, "undo", a.undo(), b.undo());
                break;
            default:
                x = near(0, 1);
                if (any(0, 1) == 0) {
                    same(g, "keep " + x, a.keep(x), b.keep(x));
                } else {
                    same(g, "again " + x, a.again(x), b.again(x));
                }
        }
    }

    private static void foodCall(long g, MapLife a, PlainTwin b) {
        boolean p = dice.nextBoolean();
        boolean q = dice.nextBoolean();
        int c = near(0, 11);
        int n;
        switch (any(0, 4)) {
            case 0:
                same(g, "road " + c + p + q, a.road(c, p, q), b.road(c, p, q));
                break;
            case 1:
                n = near(1, any(0, 3) == 0 ? 5 : 4);
                same(g, "most " + n + p, a.most(n, p), b.most(n, p));
                break;
            case 2:
                n = near(1, any(0, 5) == 0 ? 4 : 3);
                same(g, "mends " + n, a.mends(n), b.mends(n));
                break;
            case 3:
                n = near(1, 3);
                same(g, "draws " + n, a.draws(n), b.draws(n));
                break;
            default:
                if (signs(b.s) < 8 || any(0, 9) == 0) {
                    same(g, "share " + c + p, a.share(c, p), b.share(c, p));
                }
        }
    }

    private static void rowCall(long g, MapLife a, PlainTwin b) {
        boolean p = dice.nextBoolean();
        int kind = any(0, 2);
        int n = near(1, kind == 0 ? 6 : 5);
        int row = any(0, 2) == 0 ? anyRow(n) : liveRow(b, n);
        if (n > 9 || n < 1) {
            row = any(0, 44444);
        }
        if (kind == 0) {
            same(g, "judge " + n + " " + row, a.judge(n, row), n < 1 || n > 6 ? BAD : b.judge(n, row));
        } else if (kind == 1) {
            for (int f = 0; f < 6; f++) {
                int food = f == 0 ? near(0, 30) : Math.max(0, b.s.food - n + f);
                same(g, "starts " + n + " " + row + " " + food, a.starts(n, row, food),
                        n < 1 || n > 5 ? BAD : b.starts(n, row, food));
            }
        } else {
            int h = near(0, any(0, 1) == 0 ? 5 : 2);
            int x = near(0, 10);
            same(g, "chance " + n + " " + row + " " + h + " " + x + p, a.chance(n, row, h, x, p),
                    n < 1 || n > 5 ? BAD : b.chance(n, row, h, x, p));
        }
    }

    private static void otherCall(long g, MapLife a, PlainTwin b) {
        int x = near(0, 1);
        int m = near(1, 30);
        switch (any(0, 3)) {
            case 0:
                same(g, "rests " + x, a.rests(x), b.rests(x));
                break;
            case 1:
                long v = any(0, 2) == 0 ? dice.nextLong() : any(-5, 5);
                same(g, "seed " + v, a.seed(v), b.seed(v));
                break;
            case 2:
                same(g, "years " + m, a.years(m), b.years(m));
                break;
            default:
                same(g, "about " + m, a.about(near(0, 8)) >= BAD ? 0 : 1, 0);
        }
    }

    private static void runOf(long g) {
        dice = new Random(g);
        MapLife a = new MapLife();
        PlainTwin b = new PlainTwin();
        int most = any(3, 8);
        long last = calls + MOST_CALLS;
        // A step takes some 170 calls at most.
        for (int i = 0; i < 70 && calls + 175 < last; i++) {
            int kind = any(0, 19);
            if (i == 1 || kind == 0) {
                newMap(g, a, b, most);
            } else if (kind < 9) {
                actCall(g, a, b);
            } else if (kind < 13) {
                foodCall(g, a, b);
            } else if (kind < 17) {
                rowCall(g, a, b);
            } else {
                otherCall(g, a, b);
            }
            if (i % 10 == 9) {
                look(g, a, b);
            }
        }
        while (calls < last) {
            actCall(g, a, b);
        }
    }

    public static void main(String[] args) {
        int runs = args.length > 1 ? Integer.parseInt(args[1]) : 2500;
        for (long g = 1; g <= runs && wrongs < 40; g++) {
            runOf(g);
        }
        System.out.println(calls + " calls on both, " + wrongs + " not alike");
        if (wrongs != 0) {
            System.exit(1);
        }
    }
}
