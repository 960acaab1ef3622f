/**
 * A mapmaker's year within his own map: what he drew over the land, how he goes and lives in it,
 * and what could be told of it ahead.
 *
 * <p>Every object that a call needs is made by the constructor and used again, since all calls of
 * a run share one room.
 */
public final class MapLife {
    public static final int UNKNOWN = -1, BAD = -2, LATE = -3, FULL = -4, NONE = -9;

    private static final int CELLS = 12, ACROSS = 4, NOWHERE = -1;
    private static final int BLANK = 0, PLAIN = 0, ROCK = 4;
    private static final int WAYS = 4, RESTS = 4;
    private static final int MOST_SIGNS = 8, MOST_ACTS = 14, MOST_BYTES = 40, SLOTS = 2;
    private static final int MOST_DAYS = 5, MOST_STEPS_TOLD = 8, MOST_CHOICE = 4;
    private static final long SEED_TIMES = 6364136223846793005L, SEED_AND = 1442695040888963407L;

    private final Text text;
    private final Life now;
    private final Acts acts;
    private final Life[] kept;
    private int keptBits;
    /** Where lives are tried out; a chain of as many more hangs on it as MOST has DAYS. */
    private final Life trial;
    private long theSeed;

    public MapLife() {
        text = new Text();
        now = new Life(null);
        acts = new Acts();
        kept = new Life[SLOTS];
        for (int i = 0; i < kept.length; i++) {
            kept[i] = new Life(null);
        }
        trial = new Life(chainOf(MOST_DAYS));
    }

    // ---- the map

    public int write(int letter) {
        if (letter < 0 || letter > 255) {
            return BAD;
        }
        return text.add(letter) ? text.length : FULL;
    }

    public int wipe() {
        int was = text.length;
        text.length = 0;
        return was;
    }

    public int fault() {
        return text.firstFault();
    }

    public int map() {
        if (text.firstFault() != NONE) {
            return LATE;
        }
        now.beginBy(text);
        acts.count = 0;
        keptBits = 0;
        return now.countSigns();
    }

    public int about(int what) {
        switch (what) {
            case 0:
                return now.countSigns();
            case 1:
                return now.place;
            case 2:
                return now.food;
            case 3:
                return now.harm;
            case 4:
                return now.taken;
            case 5:
                return now.day;
            case 6:
                return now.errors();
            case 7:
                return acts.count;
            case 8:
                return text.length;
            default:
                return BAD;
        }
    }

    public int cell(int cell, int what) {
        if (!isCell(cell)) {
            return UNKNOWN;
        }
        switch (what) {
            case 0:
                return now.landOf(cell);
            case 1:
                return now.signOf(cell);
            case 2:
                return now.goodOf(cell);
            default:
                return BAD;
        }
    }

    // ---- acts

    public int go(int way) {
        if (way < 0 || way >= WAYS) {
            return BAD;
        }
        return actedBy(way) ? now.place : LATE;
    }

    public int rest() {
        return actedBy(RESTS) ? now.food : LATE;
    }

    public int draw(int cell, int sort) {
        if (!isCell(cell)) {
            return UNKNOWN;
        }
        if (sort <= BLANK || sort > ROCK) {
            return BAD;
        }
        if (now.signOf(cell) != BLANK) {
            return LATE;
        }
        if (now.countSigns() >= MOST_SIGNS) {
            return FULL;
        }
        acts.add(now);
        now.setSign(cell, sort);
        return now.countSigns();
    }

    public int rub(int cell) {
        if (!isCell(cell)) {
            return UNKNOWN;
        }
        int was = now.signOf(cell);
        if (was == BLANK || cell == now.place) {
            return LATE;
        }
        acts.add(now);
        now.setSign(cell, BLANK);
        return was;
    }

    public int undo() {
        return acts.takeBack(now) ? acts.count : LATE;
    }

    private boolean actedBy(int way) {
        // What can not be must leave no ACT behind, so the life ahead of it waits in trial.
        trial.become(now);
        if (!now.live(way)) {
            return false;
        }
        acts.add(trial);
        return true;
    }

    // ---- roads, food

    public int road(int cell, boolean truly, boolean row) {
        if (!isCell(cell)) {
            return UNKNOWN;
        }
        int open = now.openCells(truly);
        int steps = stepsBetween(now.place, cell, open);
        if (!row || steps == NONE) {
            return steps;
        }
        return steps > MOST_STEPS_TOLD ? NONE : firstRoad(now.place, cell, open, steps);
    }

    public int most(int n, boolean row) {
        if (n < 1 || n > MOST_DAYS) {
            return BAD;
        }
        trial.become(now);
        int food = mostFood(trial, n);
        return row && food != NONE ? firstRowTo(food, n) : food;
    }

    public int mends(int n) {
        if (n < 1 || n > 4) {
            return BAD;
        }
        return bestTrueSign(now.errors() & ~(1 << now.place), n);
    }

    public int draws(int n) {
        if (n < 1 || n > 3) {
            return BAD;
        }
        if (now.countSigns() >= MOST_SIGNS) {
            return NONE;
        }
        return bestTrueSign(now.cellsToDraw(), n);
    }

    public int judge(int n, int row) {
        if (n < 1 || n > 6 || !isRow(n, row)) {
            return BAD;
        }
        trial.become(now);
        for (int i = 0; i < n; i++) {
            if (!trial.live(figureOf(n, row, i)) || trial.harm > now.harm) {
                return i;
            }
        }
        return NONE;
    }

    public int starts(int n, int row, int f) {
        if (n < 1 || n > 5 || !isRow(n, row) || f < 0 || f > 30) {
            return BAD;
        }
        int open = now.openCells(true);
        int bits = 0;
        for (int cell = 0; cell < CELLS; cell++) {
            if (!hasCell(open, cell)) {
                continue;
            }
            trial.become(now);
            trial.place = cell;
            trial.taken = 0;
            if (livedBy(n, row) && trial.food == f) {
                bits |= 1 << cell;
            }
        }
        return bits;
    }

    public int share(int cell, boolean upper) {
        if (!isCell(cell)) {
            return UNKNOWN;
        }
        if (now.signOf(cell) == BLANK) {
            return LATE;
        }
        int others = now.signedCells() & ~(1 << cell);
        int count = Integer.bitCount(others);
        long sum = 0;
        // Orders in which the same SIGNS came ahead of this one differ in nothing that counts here.
        for (int come = 0; come < 1 << CELLS; come++) {
            if ((come & ~others) == 0) {
                int ahead = Integer.bitCount(come);
                int more = foodOfTwoDays(come | 1 << cell) - foodOfTwoDays(come);
                sum += ordersOf(ahead) * ordersOf(count - ahead) * more;
            }
        }
        return fraction(sum, ordersOf(count + 1), upper);
    }

    private int foodOfTwoDays(int signed) {
        trial.become(now);
        trial.leaveSigns(signed);
        return Math.max(0, mostFood(trial, 2));
    }

    /** Of these CELLS the first by whose SIGN, if it were as the LAND is, MOST would be greatest. */
    private int bestTrueSign(int cells, int n) {
        int best = NONE;
        int bestFood = NONE;
        for (int cell = 0; cell < CELLS; cell++) {
            if (!hasCell(cells, cell)) {
                continue;
            }
            trial.become(now);
            trial.setSign(cell, now.landOf(cell));
            int food = mostFood(trial, n);
            if (best == NONE || food > bestFood) {
                best = cell;
                bestFood = food;
            }
        }
        return best;
    }

    /** MOST for so many DAYS of this life; its spares are used up. */
    private static int mostFood(Life life, int days) {
        if (life == null) {
            return NONE;
        }
        if (days <= 0) {
            return life.food;
        }
        Life spare = life.spare;
        int most = NONE;
        for (int way = 0; spare != null && way <= RESTS; way++) {
            spare.become(life);
            if (spare.live(way)) {
                most = Math.max(most, mostFood(spare, days - 1));
            }
        }
        return most;
    }

    /** The least row by which the life in trial has so much FOOD at last. */
    private int firstRowTo(int food, int n) {
        Life spare = trial.spare;
        int row = 1;
        for (int left = n - 1; spare != null && left >= 0; left--) {
            for (int way = 0; way <= RESTS; way++) {
                spare.become(trial);
                if (spare.live(way) && mostFood(spare, left) == food) {
                    row = row * 10 + way;
                    trial.become(spare);
                    break;
                }
            }
        }
        return row;
    }

    private static int stepsBetween(int from, int to, int open) {
        int reached = 1 << from;
        for (int steps = 0; steps <= CELLS; steps++) {
            if (hasCell(reached, to)) {
                return steps;
            }
            reached |= besideAll(reached) & open;
        }
        return NONE;
    }

    private static int firstRoad(int from, int to, int open, int steps) {
        int at = from;
        int row = 1;
        for (int left = steps - 1; left >= 0; left--) {
            for (int way = 0; way < WAYS; way++) {
                int next = beside(at, way);
                if (next != NOWHERE && hasCell(open, next) && stepsBetween(next, to, open) == left) {
                    row = row * 10 + way;
                    at = next;
                    break;
                }
            }
        }
        return row;
    }

    // ---- rests, chances

    public int rests(int what) {
        if (what < 0 || what > 1) {
            return BAD;
        }
        int k = Math.min(now.countSigns(), MOST_CHOICE);
        int count = 0;
        int first = NONE;
        for (int l = 0; l <= k; l++) {
            for (int f = 0; f <= k; f++) {
                if (isAtRest(l, f, k)) {
                    count++;
                    first = first == NONE ? 10 * l + f : first;
                }
            }
        }
        return what == 0 ? count : first;
    }

    public int chance(int n, int row, int h, int x, boolean upper) {
        if (n < 1 || n > 5 || !isRow(n, row) || h < 0 || h > 5 || x < 0 || x > 10) {
            return BAD;
        }
        int times = timesMisled(n, row);
        if (times == NONE) {
            return fraction(0, 1, upper);
        }
        long sum = 0;
        for (int falls = 0; falls <= times && falls <= h; falls++) {
            sum += choicesOf(times, falls) * powerOf(x, falls) * powerOf(10 - x, times - falls);
        }
        return fraction(sum, powerOf(10, times), upper);
    }

    public long seed(long v) {
        long was = theSeed;
        theSeed = v;
        return was;
    }

    public int years(int m) {
        if (m < 1 || m > 30) {
            return BAD;
        }
        trial.become(now);
        for (int i = 0; i < m; i++) {
            theSeed = theSeed * SEED_TIMES + SEED_AND;
            trial.live((int) ((theSeed >>> 33) % 5));
        }
        return trial.food + 100 * (trial.harm - now.harm);
    }

    private static boolean isAtRest(int l, int f, int k) {
        for (int other = 0; other <= k; other++) {
            if (guildHas(other, f, k) > guildHas(l, f, k)) {
                return false;
            }
            if (masterHas(l, other, k) > masterHas(l, f, k)) {
                return false;
            }
        }
        return true;
    }

    private static int guildHas(int l, int f, int k) {
        return 4 * Math.max(0, l + f - k) - l;
    }

    private static int masterHas(int l, int f, int k) {
        return 2 * f - 5 * Math.max(0, l + f - k);
    }

    /** How many times he comes into a CELL that is not as its SIGN says; NONE: the row can not be. */
    private int timesMisled(int n, int row) {
        trial.become(now);
        int times = 0;
        for (int i = 0; i < n; i++) {
            int was = trial.place;
            if (!trial.live(figureOf(n, row, i))) {
                return NONE;
            }
            // A ROCK keeps him where he was: he runs against it, but does not come into its CELL.
            if (trial.place != was && trial.isError(trial.place)) {
                times++;
            }
        }
        return times;
    }

    /** Whether the row can be, from the life in trial on. */
    private boolean livedBy(int n, int row) {
        for (int i = 0; i < n; i++) {
            if (!trial.live(figureOf(n, row, i))) {
                return false;
            }
        }
        return true;
    }

    // ---- slots

    public int keep(int slot) {
        Life life = slotOf(slot);
        if (life == null) {
            return UNKNOWN;
        }
        life.become(now);
        keptBits |= 1 << slot;
        return now.day;
    }

    public int again(int slot) {
        Life life = slotOf(slot);
        if (life == null) {
            return UNKNOWN;
        }
        if ((keptBits >> slot & 1) == 0) {
            return LATE;
        }
        now.become(life);
        acts.count = 0;
        return now.day;
    }

    private Life slotOf(int slot) {
        return slot >= 0 && slot < kept.length ? kept[slot] : null;
    }

    // ---- cells

    private static boolean isCell(int cell) {
        return cell >= 0 && cell < CELLS;
    }

    private static boolean hasCell(int bits, int cell) {
        return (bits >> cell & 1) != 0;
    }

    private static int beside(int cell, int way) {
        int column = cell % ACROSS;
        switch (way) {
            case 0:
                return cell >= ACROSS ? cell - ACROSS : NOWHERE;
            case 1:
                return cell + ACROSS < CELLS ? cell + ACROSS : NOWHERE;
            case 2:
                return column > 0 ? cell - 1 : NOWHERE;
            case 3:
                return column < ACROSS - 1 ? cell + 1 : NOWHERE;
            default:
                return NOWHERE;
        }
    }

    private static int besideAll(int cells) {
        int bits = 0;
        for (int cell = 0; cell < CELLS; cell++) {
            for (int way = 0; hasCell(cells, cell) && way < WAYS; way++) {
                int next = beside(cell, way);
                bits |= next == NOWHERE ? 0 : 1 << next;
            }
        }
        return bits;
    }

    // ---- rows and numbers

    private static boolean isRow(int n, int row) {
        if (row < 0) {
            return false;
        }
        int left = row;
        for (int i = 0; i < n; i++) {
            if (left % 10 > RESTS) {
                return false;
            }
            left /= 10;
        }
        return left == 0;
    }

    private static int figureOf(int n, int row, int place) {
        int left = row;
        for (int i = n - 1; i > place; i--) {
            left /= 10;
        }
        return left % 10;
    }

    private static long powerOf(int base, int times) {
        long power = 1;
        for (int i = 0; i < times; i++) {
            power *= base;
        }
        return power;
    }

    private static long ordersOf(int things) {
        long orders = 1;
        for (int i = 2; i <= things; i++) {
            orders *= i;
        }
        return orders;
    }

    private static long choicesOf(int things, int taken) {
        long choices = 1;
        // Behind each turn the product is itself a number of choices, so the division is exact.
        for (int i = 1; i <= taken; i++) {
            choices = choices * (things - taken + i) / i;
        }
        return choices;
    }

    private static int fraction(long above, long below, boolean upper) {
        long a = Math.abs(above);
        long b = below;
        // The remainder shrinks to 0 in far fewer turns than this.
        for (int i = 0; i < 200 && b != 0; i++) {
            long left = a % b;
            a = b;
            b = left;
        }
        if (a == 0) {
            return 0;
        }
        return (int) ((upper ? above : below) / a);
    }

    private static Life chainOf(int lives) {
        Life first = null;
        for (int i = 0; i < lives; i++) {
            first = new Life(first);
        }
        return first;
    }

    /** THE TEXT. */
    private static final class Text {
        final int[] bytes = new int[MOST_BYTES];
        int length;

        boolean add(int letter) {
            if (length < 0 || length >= bytes.length) {
                return false;
            }
            bytes[length] = letter;
            length++;
            return true;
        }

        int at(int place) {
            return place >= 0 && place < bytes.length ? bytes[place] : 0;
        }

        int firstFault() {
            for (int i = 0; i < length; i++) {
                if (!fits(i)) {
                    return i;
                }
            }
            return length >= 14 && (length - 14) % 3 == 0 ? NONE : length;
        }

        private boolean fits(int place) {
            int letter = at(place);
            if (place == 0) {
                return letter == 'M';
            }
            if (place == 1) {
                return letter >= '0' && letter <= '9';
            }
            if (place < 14) {
                return letter >= '0' && letter <= '4';
            }
            return fitsSign((place - 14) / 3, (place - 14) % 3, letter);
        }

        private boolean fitsSign(int sign, int part, int letter) {
            if (sign >= MOST_SIGNS) {
                return false;
            }
            if (part == 0) {
                return letter == 'D';
            }
            if (part == 2) {
                return letter >= '1' && letter <= '4';
            }
            for (int i = 0; i < sign; i++) {
                if (at(15 + 3 * i) == letter) {
                    return false;
                }
            }
            return letter >= 'a' && letter <= 'l';
        }
    }

    /** The ACTS, each by the life as it was ahead of it. */
    private static final class Acts {
        final Life[] lives = new Life[MOST_ACTS];
        int count;

        Acts() {
            for (int i = 0; i < lives.length; i++) {
                lives[i] = new Life(null);
            }
        }

        void add(Life before) {
            if (count >= lives.length) {
                forgetFirst();
            }
            Life life = lifeOf(count);
            if (life != null) {
                life.become(before);
                count++;
            }
        }

        boolean takeBack(Life now) {
            Life life = lifeOf(count - 1);
            if (life == null) {
                return false;
            }
            now.become(life);
            count--;
            return true;
        }

        private void forgetFirst() {
            // The forgotten life wanders behind the others to be used again: nothing new is made.
            for (int i = 1; i < lives.length; i++) {
                Life earlier = lives[i - 1];
                lives[i - 1] = lives[i];
                lives[i] = earlier;
            }
            count = lives.length - 1;
        }

        private Life lifeOf(int place) {
            return place >= 0 && place < lives.length ? lives[place] : null;
        }
    }

    /** A master in his map: LAND and SIGNS stand in four bits a CELL, so no array is looked into. */
    private static final class Life {
        final Life spare;
        long land;
        long signs;
        int place;
        int food;
        int harm;
        int taken;
        int day;

        Life(Life spare) {
            this.spare = spare;
        }

        void become(Life other) {
            if (other == null) {
                return;
            }
            land = other.land;
            signs = other.signs;
            place = other.place;
            food = other.food;
            harm = other.harm;
            taken = other.taken;
            day = other.day;
        }

        void beginBy(Text text) {
            land = 0;
            signs = 0;
            place = 0;
            food = text.at(1) - '0';
            harm = 0;
            taken = 0;
            day = 0;
            for (int cell = 0; cell < CELLS; cell++) {
                land |= (long) (text.at(2 + cell) - '0') << 4 * cell;
            }
            for (int i = 14; i + 2 < text.length; i += 3) {
                setSign(text.at(i + 1) - 'a', text.at(i + 2) - '0');
            }
        }

        int landOf(int cell) {
            return (int) (land >>> 4 * cell) & 15;
        }

        int signOf(int cell) {
            return (int) (signs >>> 4 * cell) & 15;
        }

        void setSign(int cell, int sort) {
            signs = signs & ~(15L << 4 * cell) | (long) sort << 4 * cell;
        }

        void leaveSigns(int cells) {
            for (int cell = 0; cell < CELLS; cell++) {
                if (!hasCell(cells, cell)) {
                    setSign(cell, BLANK);
                }
            }
        }

        int goodOf(int cell) {
            int sign = signOf(cell);
            int good = sign == BLANK ? 0 : ROCK - sign;
            return sign == landOf(cell) ? good : good / 2;
        }

        boolean isError(int cell) {
            return signOf(cell) != BLANK && signOf(cell) != landOf(cell);
        }

        boolean isOpen(int cell, boolean truly) {
            int sign = signOf(cell);
            return sign != BLANK && sign != ROCK && !(truly && landOf(cell) == ROCK);
        }

        int signedCells() {
            int bits = 0;
            for (int cell = 0; cell < CELLS; cell++) {
                bits |= signOf(cell) != BLANK ? 1 << cell : 0;
            }
            return bits;
        }

        int countSigns() {
            return Integer.bitCount(signedCells());
        }

        int errors() {
            int bits = 0;
            for (int cell = 0; cell < CELLS; cell++) {
                bits |= isError(cell) ? 1 << cell : 0;
            }
            return bits;
        }

        int cellsToDraw() {
            int bits = 0;
            for (int cell = 0; cell < CELLS; cell++) {
                bits |= signOf(cell) == BLANK && landOf(cell) != PLAIN ? 1 << cell : 0;
            }
            return bits;
        }

        int openCells(boolean truly) {
            int bits = 0;
            for (int cell = 0; cell < CELLS; cell++) {
                bits |= isOpen(cell, truly) ? 1 << cell : 0;
            }
            return bits;
        }

        /** A DAY by a WAY or a REST: false, and nothing is changed, if it can not be. */
        boolean live(int way) {
            if (food <= 0) {
                return false;
            }
            if (way != RESTS) {
                int to = beside(place, way);
                if (to == NOWHERE || !isOpen(to, false)) {
                    return false;
                }
                comeInto(to);
            }
            food--;
            day++;
            return true;
        }

        private void comeInto(int cell) {
            if (landOf(cell) == ROCK) {
                harm++;
                return;
            }
            place = cell;
            if (!hasCell(taken, cell)) {
                food += goodOf(cell);
                taken |= 1 << cell;
            }
        }
    }
}
