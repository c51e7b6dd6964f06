/**
 * Rows in a ring whose echoes are kept in the margins of their neighbours, so that a lost row can
 * be mended. What each call does and answers is told by the promises of DOC.md.
 */
public final class EchoMargins {
    /** An argument is out of its range, or there is no such row. */
    public static final int INVALID_ARGUMENT = -1000001;
    /** The call is not possible in the present state. */
    public static final int NOT_POSSIBLE = -1000002;
    /** A fixed limit has been reached. */
    public static final int LIMIT_REACHED = -1000003;
    /** There is no such value. */
    public static final int NOT_FOUND = -1000004;

    private static final int FIRST_ROWS = 5;

    private final Ring now;
    private final Ring trial;
    private final Survey survey;
    private final Mending mending;
    private final History past;
    private final Orders text;

    public EchoMargins() {
        now = new Ring();
        trial = new Ring();
        survey = new Survey(now);
        mending = new Mending();
        past = new History();
        text = new Orders();
        now.beginAnew(FIRST_ROWS);
    }

    // ---- rows

    public int begin(int rows) {
        past.note(now);
        return past.keepUnlessError(now.beginAnew(rows));
    }

    public int write(int row, int cell, int value) {
        past.note(now);
        return past.keepUnlessError(now.writeCell(row, cell, value));
    }

    public int lose(int row) {
        past.note(now);
        return past.keepUnlessError(now.loseRow(row));
    }

    public int mend(int row) {
        past.note(now);
        return past.keepUnlessError(now.mendRow(row));
    }

    public int swap(int one, int other) {
        past.note(now);
        return past.keepUnlessError(now.swapRows(one, other));
    }

    public int lay(int row) {
        past.note(now);
        return past.keepUnlessError(now.layAnew(row));
    }

    public int days(int many) {
        past.note(now);
        return past.keepUnlessError(now.endDays(many));
    }

    public int set(int what, int value) {
        past.note(now);
        return past.keepUnlessError(now.changeSetting(what, value));
    }

    // ---- what there is

    public int cell(int row, int cell, int what) {
        return survey.ofCell(row, cell, what);
    }

    public int margin(int row, int rank, int what) {
        return survey.ofMargin(row, rank, what);
    }

    public int row(int row, int what) {
        return survey.ofRow(row, what);
    }

    public int at(int place) {
        return now.hasRow(place) ? now.get(Ring.AT + place) : INVALID_ARGUMENT;
    }

    // ---- what would be

    public int would(int row, int what) {
        return survey.ofMending(row, what);
    }

    public int order(int rank) {
        if (rank < 0) {
            return INVALID_ARGUMENT;
        }
        int lost = mending.findBest(now);
        if (lost < 0) {
            return lost;
        }
        return rank < lost ? mending.bestRow(rank) : NOT_FOUND;
    }

    public int comes() {
        int lost = mending.findBest(now);
        return lost < 0 ? lost : mending.bestSum();
    }

    public int safeFor() {
        return survey.daysSafe();
    }

    public int mean() {
        return survey.meanAge();
    }

    public int share() {
        return survey.shareComingBack();
    }

    public int count(int what) {
        switch (what) {
            case 14:
                return past.size();
            case 15:
                return text.length();
            default:
                return survey.ofAll(what);
        }
    }

    public int undo() {
        return past.bringBack(now);
    }

    // ---- texts

    public int type(int character) {
        return text.append(character);
    }

    public int clearText() {
        return text.empty();
    }

    public int fault(int what) {
        if (what < 0 || what > 2) {
            return INVALID_ARGUMENT;
        }
        trial.copyFrom(now);
        return text.run(trial) < 0 ? text.ofFault(what) : NOT_FOUND;
    }

    public int play() {
        trial.copyFrom(now);
        int orders = text.run(trial);
        if (orders < 0) {
            return NOT_POSSIBLE;
        }
        past.note(now);
        now.copyFrom(trial);
        return past.keepUnlessError(orders);
    }

    /**
     * Everything that a change can alter, in one row of numbers: so a state is copied whole, and
     * undo can forget nothing.
     */
    private static final class Ring {
        static final int LEAST_ROWS = 3;
        static final int MOST_ROWS = 9;
        static final int CELLS = 8;
        static final int MOST_VALUE = 999;
        static final int MOST_ECHOES = 16;
        static final int MOST_FADES = 99;
        static final int MOST_DAYS_AT_ONCE = 99;
        static final int LAST_DAY = 9999;
        static final int UP = -1;
        static final int DOWN = 1;
        static final int UNKNOWN = -1;
        static final int NO_ECHO = -1;

        // Where each number, or the first one of its kind, stands.
        static final int DAY = 0;
        static final int ROWS = 1;
        static final int BEARS = 2;
        static final int FADES = 3;
        static final int WRITTEN = 4;
        static final int LOST = 5;
        static final int MENDED = 6;
        static final int CAME_BACK = 7;
        static final int CAME_WRONG = 8;
        static final int LAID = 9;
        static final int PLACE = 10;
        static final int AT = PLACE + MOST_ROWS;
        static final int LIVES = AT + MOST_ROWS;
        static final int TIMES_LOST = LIVES + MOST_ROWS;
        static final int CROWDED_OUT = TIMES_LOST + MOST_ROWS;
        static final int ECHOES = CROWDED_OUT + MOST_ROWS;
        // The values of a lost row stay as they were when it was lost: mending compares with them.
        static final int VALUE = ECHOES + MOST_ROWS;
        static final int WRONG = VALUE + MOST_ROWS * CELLS;
        static final int MARGIN = WRONG + MOST_ROWS * CELLS;
        static final int SIZE = MARGIN + MOST_ROWS * MOST_ECHOES;

        private final int[] numbers;

        Ring() {
            numbers = new int[SIZE];
            numbers[BEARS] = 8;
            numbers[FADES] = 20;
        }

        // Every index goes through get and put, so that none is used untested.
        int get(int at) {
            return at >= 0 && at < SIZE ? numbers[at] : 0;
        }

        private void put(int at, int number) {
            if (at >= 0 && at < SIZE) {
                numbers[at] = number;
            }
        }

        private void add(int at, int more) {
            put(at, get(at) + more);
        }

        void copyFrom(Ring other) {
            if (other != null) {
                System.arraycopy(other.numbers, 0, numbers, 0, SIZE);
            }
        }

        // An echo is one number: its cell among all cells, its value, and its day.
        private static int echo(int owner, int value, int day) {
            return owner << 24 | value << 14 | day;
        }

        static int ownerOf(int echo) {
            return echo >> 24;
        }

        static int valueOf(int echo) {
            return echo >> 14 & 1023;
        }

        private static int dayOf(int echo) {
            return echo & 16383;
        }

        int ageOf(int echo) {
            return get(DAY) - dayOf(echo);
        }

        boolean isFaded(int echo) {
            return get(DAY) - dayOf(echo) > get(FADES);
        }

        boolean hasRow(int row) {
            return row >= 0 && row < get(ROWS);
        }

        static boolean isCell(int cell) {
            return cell >= 0 && cell < CELLS;
        }

        boolean lives(int row) {
            return get(LIVES + row) == 1;
        }

        int neighbour(int row, int step) {
            int place = get(PLACE + row) + step;
            int last = get(ROWS) - 1;
            if (place < 0) {
                place = last;
            } else if (place > last) {
                place = 0;
            }
            return get(AT + place);
        }

        static int stepToHolder(int cell) {
            return cell % 2 == 0 ? UP : DOWN;
        }

        /** The echo of a cell at the neighbour of now, or NO_ECHO if it is not there, or faded. */
        int freshEcho(int row, int cell) {
            int holder = neighbour(row, stepToHolder(cell));
            int start = MARGIN + holder * MOST_ECHOES;
            int many = get(ECHOES + holder);
            for (int rank = 0; rank < many; rank++) {
                int echo = get(start + rank);
                if (ownerOf(echo) == row * CELLS + cell) {
                    return isFaded(echo) ? NO_ECHO : echo;
                }
            }
            return NO_ECHO;
        }

        /** Of a row that lives: of its cells as they are; of a lost one: as they were. */
        int comingBack(int row) {
            int cells = 0;
            for (int cell = 0; cell < CELLS; cell++) {
                int echo = freshEcho(row, cell);
                if (echo != NO_ECHO && valueOf(echo) == get(VALUE + row * CELLS + cell)) {
                    cells++;
                }
            }
            return cells;
        }

        int beginAnew(int rows) {
            if (rows < LEAST_ROWS || rows > MOST_ROWS) {
                return INVALID_ARGUMENT;
            }
            put(ROWS, rows);
            for (int at = WRITTEN; at < SIZE; at++) {
                put(at, 0);
            }
            for (int row = 0; row < rows; row++) {
                put(PLACE + row, row);
                put(AT + row, row);
                put(LIVES + row, 1);
            }
            int echoes = layFirstEchoes(rows);
            put(LAID, 0);
            return echoes;
        }

        /** What full margins lose here is not counted: all that is counted begins at 0. */
        private int layFirstEchoes(int rows) {
            for (int row = 0; row < rows; row++) {
                layRow(row);
            }
            int echoes = 0;
            for (int row = 0; row < rows; row++) {
                put(CROWDED_OUT + row, 0);
                echoes += get(ECHOES + row);
            }
            return echoes;
        }

        int writeCell(int row, int cell, int value) {
            if (!hasRow(row) || !isCell(cell) || value < 0 || value > MOST_VALUE) {
                return INVALID_ARGUMENT;
            }
            if (!lives(row)) {
                return NOT_POSSIBLE;
            }
            put(VALUE + row * CELLS + cell, value);
            put(WRONG + row * CELLS + cell, 0);
            add(WRITTEN, 1);
            return layEcho(row, cell, neighbour(row, stepToHolder(cell)));
        }

        int loseRow(int row) {
            if (!hasRow(row)) {
                return INVALID_ARGUMENT;
            }
            if (!lives(row)) {
                return NOT_POSSIBLE;
            }
            int cells = comingBack(row);
            for (int cell = 0; cell < CELLS; cell++) {
                put(WRONG + row * CELLS + cell, 0);
            }
            put(LIVES + row, 0);
            put(ECHOES + row, 0);
            add(TIMES_LOST + row, 1);
            add(LOST, 1);
            return cells;
        }

        int mendRow(int row) {
            if (!hasRow(row)) {
                return INVALID_ARGUMENT;
            }
            if (lives(row)) {
                return NOT_POSSIBLE;
            }
            int cells = comingBack(row);
            for (int cell = 0; cell < CELLS; cell++) {
                int echo = freshEcho(row, cell);
                mendCell(row * CELLS + cell, echo == NO_ECHO ? UNKNOWN : valueOf(echo));
            }
            put(LIVES + row, 1);
            layRow(neighbour(row, UP));
            layRow(neighbour(row, DOWN));
            layRow(row);
            add(MENDED, 1);
            add(CAME_BACK, cells);
            return cells;
        }

        private void mendCell(int at, int value) {
            int wrong = value != UNKNOWN && value != get(VALUE + at) ? 1 : 0;
            put(VALUE + at, value);
            put(WRONG + at, wrong);
            add(CAME_WRONG, wrong);
        }

        int swapRows(int one, int other) {
            if (!hasRow(one) || !hasRow(other) || one == other) {
                return INVALID_ARGUMENT;
            }
            if (!lives(one) || !lives(other)) {
                return NOT_POSSIBLE;
            }
            int from = get(PLACE + one);
            int to = get(PLACE + other);
            put(PLACE + one, to);
            put(PLACE + other, from);
            put(AT + to, one);
            put(AT + from, other);
            int way = Math.abs(from - to);
            return Math.min(way, get(ROWS) - way);
        }

        int layAnew(int row) {
            if (!hasRow(row)) {
                return INVALID_ARGUMENT;
            }
            return lives(row) ? layRow(row) : NOT_POSSIBLE;
        }

        private int layRow(int row) {
            if (!lives(row)) {
                return 0;
            }
            int upper = neighbour(row, UP);
            int lower = neighbour(row, DOWN);
            int laid = 0;
            for (int cell = 0; cell < CELLS; cell++) {
                laid += layEcho(row, cell, stepToHolder(cell) == UP ? upper : lower);
            }
            return laid;
        }

        private int layEcho(int row, int cell, int holder) {
            int owner = row * CELLS + cell;
            int value = get(VALUE + owner);
            if (value == UNKNOWN || !lives(holder)) {
                return 0;
            }
            removeEcho(holder, owner);
            int tooMany = get(ECHOES + holder) + 1 - get(BEARS);
            if (tooMany > 0) {
                dropFirst(holder, tooMany);
                add(CROWDED_OUT + holder, tooMany);
            }
            put(MARGIN + holder * MOST_ECHOES + get(ECHOES + holder), echo(owner, value, get(DAY)));
            add(ECHOES + holder, 1);
            add(LAID, 1);
            return 1;
        }

        private void removeEcho(int holder, int owner) {
            int start = MARGIN + holder * MOST_ECHOES;
            int many = get(ECHOES + holder);
            int kept = 0;
            for (int rank = 0; rank < many; rank++) {
                int echo = get(start + rank);
                if (ownerOf(echo) != owner) {
                    put(start + kept, echo);
                    kept++;
                }
            }
            put(ECHOES + holder, kept);
        }

        private void dropFirst(int holder, int many) {
            int start = MARGIN + holder * MOST_ECHOES;
            int left = Math.max(0, get(ECHOES + holder) - many);
            for (int rank = 0; rank < left; rank++) {
                put(start + rank, get(start + rank + many));
            }
            put(ECHOES + holder, left);
        }

        int endDays(int many) {
            if (many < 1 || many > MOST_DAYS_AT_ONCE) {
                return INVALID_ARGUMENT;
            }
            if (get(DAY) + many > LAST_DAY) {
                return LIMIT_REACHED;
            }
            add(DAY, many);
            return get(DAY);
        }

        int changeSetting(int what, int value) {
            if (what < 0 || what > 1 || value < 1 || value > (what == 0 ? MOST_ECHOES : MOST_FADES)) {
                return INVALID_ARGUMENT;
            }
            int before = get(BEARS + what);
            put(BEARS + what, value);
            for (int row = 0; row < get(ROWS); row++) {
                int tooMany = get(ECHOES + row) - get(BEARS);
                if (tooMany > 0) {
                    dropFirst(row, tooMany);
                }
            }
            return before;
        }
    }

    /** Answers what there is in a ring, and changes nothing in it. */
    private static final class Survey {
        private final Ring ring;

        Survey(Ring ring) {
            this.ring = ring;
        }

        int ofCell(int row, int cell, int what) {
            if (!ring.hasRow(row) || !Ring.isCell(cell)) {
                return INVALID_ARGUMENT;
            }
            int at = row * Ring.CELLS + cell;
            int value = ring.lives(row) ? ring.get(Ring.VALUE + at) : Ring.UNKNOWN;
            int echo = ring.freshEcho(row, cell);
            boolean told = echo != Ring.NO_ECHO;
            switch (what) {
                case 0:
                    return value == Ring.UNKNOWN ? NOT_FOUND : value;
                case 1:
                    return ring.get(Ring.WRONG + at);
                case 2:
                    return told ? Ring.valueOf(echo) : NOT_FOUND;
                case 3:
                    return told ? ring.ageOf(echo) : NOT_FOUND;
                case 4:
                    return told && Ring.valueOf(echo) == value ? 1 : 0;
                default:
                    return INVALID_ARGUMENT;
            }
        }

        int ofMargin(int row, int rank, int what) {
            if (!ring.hasRow(row) || rank < 0 || what < 0 || what > 4) {
                return INVALID_ARGUMENT;
            }
            if (rank >= ring.get(Ring.ECHOES + row)) {
                return NOT_FOUND;
            }
            int echo = echoIn(row, rank);
            switch (what) {
                case 0:
                    return Ring.ownerOf(echo) / Ring.CELLS;
                case 1:
                    return Ring.ownerOf(echo) % Ring.CELLS;
                case 2:
                    return Ring.valueOf(echo);
                case 3:
                    return ring.ageOf(echo);
                default:
                    return ring.isFaded(echo) ? 1 : 0;
            }
        }

        int ofRow(int row, int what) {
            if (!ring.hasRow(row)) {
                return INVALID_ARGUMENT;
            }
            switch (what) {
                case 0:
                    return ring.get(Ring.PLACE + row);
                case 1:
                    return ring.get(Ring.LIVES + row);
                case 2:
                    return ring.neighbour(row, Ring.UP);
                case 3:
                    return ring.neighbour(row, Ring.DOWN);
                case 4:
                    return ring.get(Ring.ECHOES + row);
                case 5:
                    return ring.lives(row) ? unknownCells(row) : Ring.CELLS;
                case 6:
                    return wrongCells(row);
                case 7:
                    return ring.comingBack(row);
                case 8:
                    return ring.get(Ring.TIMES_LOST + row);
                case 9:
                    return ring.get(Ring.CROWDED_OUT + row);
                default:
                    return INVALID_ARGUMENT;
            }
        }

        int ofMending(int row, int what) {
            if (!ring.hasRow(row) || what < 0 || what > 3) {
                return INVALID_ARGUMENT;
            }
            if (ring.lives(row)) {
                return NOT_POSSIBLE;
            }
            int right = ring.comingBack(row);
            int used = 0;
            int oldest = NOT_FOUND;
            for (int cell = 0; cell < Ring.CELLS; cell++) {
                int echo = ring.freshEcho(row, cell);
                if (echo != Ring.NO_ECHO) {
                    used++;
                    oldest = Math.max(oldest, ring.ageOf(echo));
                }
            }
            switch (what) {
                case 0:
                    return right;
                case 1:
                    return used - right;
                case 2:
                    return Ring.CELLS - used;
                default:
                    return oldest;
            }
        }

        /** The history and the text, 14 and 15, are not in the ring. */
        int ofAll(int what) {
            switch (what) {
                case 0:
                    return ring.get(Ring.ROWS);
                case 1:
                    return ring.get(Ring.DAY);
                case 2:
                    return livingRows();
                case 3:
                    return safeRows();
                case 4:
                    return allEchoes();
                case 5:
                    return allEchoes() - freshEchoes();
                case 6:
                    return allUnknownCells();
                case 7:
                    return allWrongCells();
                case 8:
                    return ring.get(Ring.WRITTEN);
                case 9:
                    return ring.get(Ring.LOST);
                case 10:
                    return ring.get(Ring.MENDED);
                case 11:
                    return ring.get(Ring.CAME_BACK);
                case 12:
                    return ring.get(Ring.CAME_WRONG);
                case 13:
                    return ring.get(Ring.LAID);
                case 20:
                    return ring.get(Ring.BEARS);
                case 21:
                    return ring.get(Ring.FADES);
                default:
                    return INVALID_ARGUMENT;
            }
        }

        int daysSafe() {
            int safe = safeRows();
            int least = NOT_FOUND;
            for (int row = 0; row < ring.get(Ring.ROWS); row++) {
                if ((safe >> row & 1) == 1) {
                    int days = daysUntilFaded(row);
                    if (days != NOT_FOUND && (least == NOT_FOUND || days < least)) {
                        least = days;
                    }
                }
            }
            return least;
        }

        /** Of a row that is safe: each cell that is known has an echo that tells. */
        private int daysUntilFaded(int row) {
            int oldest = NOT_FOUND;
            for (int cell = 0; cell < Ring.CELLS; cell++) {
                int echo = ring.freshEcho(row, cell);
                if (isKnown(row, cell) && echo != Ring.NO_ECHO) {
                    oldest = Math.max(oldest, ring.ageOf(echo));
                }
            }
            return oldest == NOT_FOUND ? NOT_FOUND : ring.get(Ring.FADES) - oldest + 1;
        }

        int meanAge() {
            int many = freshEchoes();
            if (many == 0) {
                return NOT_FOUND;
            }
            int ages = 0;
            for (int row = 0; row < ring.get(Ring.ROWS); row++) {
                for (int rank = 0; rank < ring.get(Ring.ECHOES + row); rank++) {
                    int echo = echoIn(row, rank);
                    ages += ring.isFaded(echo) ? 0 : ring.ageOf(echo);
                }
            }
            return bitsOf((float) ages / (float) many);
        }

        int shareComingBack() {
            int back = 0;
            int cells = 0;
            for (int row = 0; row < ring.get(Ring.ROWS); row++) {
                if (ring.lives(row)) {
                    back += ring.comingBack(row);
                    cells += Ring.CELLS;
                }
            }
            return cells == 0 ? NOT_FOUND : bitsOf((float) back / (float) cells);
        }

        /** Of a float that is 0 or well above the least ones: no library call tells its bits here. */
        private static int bitsOf(float number) {
            if (number <= 0f) {
                return 0;
            }
            float rest = number;
            int exponent = 127;
            while (rest >= 2f && exponent < 254) {
                rest = rest / 2f;
                exponent++;
            }
            while (rest < 1f && exponent > 1) {
                rest = rest * 2f;
                exponent--;
            }
            return (exponent << 23) + (int) ((rest - 1f) * 8388608f);
        }

        private int echoIn(int row, int rank) {
            return ring.get(Ring.MARGIN + row * Ring.MOST_ECHOES + rank);
        }

        private boolean isKnown(int row, int cell) {
            return ring.get(Ring.VALUE + row * Ring.CELLS + cell) != Ring.UNKNOWN;
        }

        private int unknownCells(int row) {
            int cells = 0;
            for (int cell = 0; cell < Ring.CELLS; cell++) {
                cells += isKnown(row, cell) ? 0 : 1;
            }
            return cells;
        }

        private int wrongCells(int row) {
            int cells = 0;
            for (int cell = 0; cell < Ring.CELLS; cell++) {
                cells += ring.get(Ring.WRONG + row * Ring.CELLS + cell);
            }
            return cells;
        }

        private int allUnknownCells() {
            int cells = 0;
            for (int row = 0; row < ring.get(Ring.ROWS); row++) {
                cells += ring.lives(row) ? unknownCells(row) : 0;
            }
            return cells;
        }

        private int allWrongCells() {
            int cells = 0;
            for (int row = 0; row < ring.get(Ring.ROWS); row++) {
                cells += wrongCells(row);
            }
            return cells;
        }

        private int livingRows() {
            int rows = 0;
            for (int row = 0; row < ring.get(Ring.ROWS); row++) {
                rows |= ring.get(Ring.LIVES + row) << row;
            }
            return rows;
        }

        private int safeRows() {
            int rows = 0;
            for (int row = 0; row < ring.get(Ring.ROWS); row++) {
                if (ring.lives(row) && ring.comingBack(row) + unknownCells(row) == Ring.CELLS) {
                    rows |= 1 << row;
                }
            }
            return rows;
        }

        private int allEchoes() {
            int echoes = 0;
            for (int row = 0; row < ring.get(Ring.ROWS); row++) {
                echoes += ring.get(Ring.ECHOES + row);
            }
            return echoes;
        }

        private int freshEchoes() {
            int echoes = 0;
            for (int row = 0; row < ring.get(Ring.ROWS); row++) {
                for (int rank = 0; rank < ring.get(Ring.ECHOES + row); rank++) {
                    echoes += ring.isFaded(echoIn(row, rank)) ? 0 : 1;
                }
            }
            return echoes;
        }
    }

    /** Finds the order in which lost rows are mended best, by trying them out. */
    private static final class Mending {
        private static final int MOST_LOST = 4;

        private final Ring[] steps;
        private final int[] tried;
        private final int[] best;
        private int sum;

        Mending() {
            steps = new Ring[MOST_LOST];
            for (int depth = 0; depth < MOST_LOST; depth++) {
                steps[depth] = new Ring();
            }
            tried = new int[MOST_LOST];
            best = new int[MOST_LOST];
            sum = 0;
        }

        /** Returns how many rows are lost, or LIMIT_REACHED. */
        int findBest(Ring now) {
            int lost = lostRows(now);
            if (lost > MOST_LOST) {
                return LIMIT_REACHED;
            }
            sum = -1;
            tryOrders(now, 0, 0);
            return lost;
        }

        int bestRow(int rank) {
            return rank >= 0 && rank < MOST_LOST ? best[rank] : NOT_FOUND;
        }

        int bestSum() {
            return sum;
        }

        /**
         * Orders are tried from the first one on, and only a greater sum replaces the best one. A
         * row that is lost gets no new echoes, so what comes back now is the most that can come
         * back later: where that is not above the best sum, nothing is worth a try.
         */
        private void tryOrders(Ring from, int depth, int gained) {
            if (lostRows(from) == 0) {
                keepIfBetter(gained);
                return;
            }
            if (depth < 0 || depth >= MOST_LOST || steps[depth] == null) {
                return;
            }
            Ring next = steps[depth];
            int most = gained + stillComing(from);
            for (int row = 0; row < from.get(Ring.ROWS); row++) {
                if (!from.lives(row) && most > sum) {
                    next.copyFrom(from);
                    tried[depth] = row;
                    tryOrders(next, depth + 1, gained + next.mendRow(row));
                }
            }
        }

        private void keepIfBetter(int gained) {
            if (gained > sum) {
                sum = gained;
                System.arraycopy(tried, 0, best, 0, MOST_LOST);
            }
        }

        private static int lostRows(Ring ring) {
            int rows = 0;
            for (int row = 0; row < ring.get(Ring.ROWS); row++) {
                rows += ring.lives(row) ? 0 : 1;
            }
            return rows;
        }

        private static int stillComing(Ring ring) {
            int cells = 0;
            for (int row = 0; row < ring.get(Ring.ROWS); row++) {
                cells += ring.lives(row) ? 0 : ring.comingBack(row);
            }
            return cells;
        }
    }

    /**
     * The states before the latest changes. A state is noted before each change that is tried, in a
     * place beyond those that are kept, and kept only if the change returns no error.
     */
    private static final class History {
        private static final int MOST_STATES = 4;
        private static final int PLACES = MOST_STATES + 1;

        private final Ring[] states;
        private int oldest;
        private int many;

        History() {
            states = new Ring[PLACES];
            for (int place = 0; place < PLACES; place++) {
                states[place] = new Ring();
            }
            oldest = 0;
            many = 0;
        }

        int size() {
            return many;
        }

        void note(Ring now) {
            Ring place = stateAt(many);
            if (place != null) {
                place.copyFrom(now);
            }
        }

        int keepUnlessError(int answer) {
            if (answer < 0) {
                return answer;
            }
            if (many < MOST_STATES) {
                many++;
            } else {
                oldest = (oldest + 1) % PLACES;
            }
            return answer;
        }

        int bringBack(Ring now) {
            if (many == 0) {
                return NOT_POSSIBLE;
            }
            many--;
            now.copyFrom(stateAt(many));
            return many;
        }

        private Ring stateAt(int rank) {
            int place = (oldest + rank) % PLACES;
            return place >= 0 ? states[place] : null;
        }
    }

    /** The text, and the orders that are read from it. */
    private static final class Orders {
        private static final int MOST_SIGNS = 60;
        private static final int MOST_NUMBERS = 3;
        private static final int MOST_DIGITS = 3;
        private static final int FAULTY = -1;

        private final int[] signs;
        private final int[] numbers;
        private int length;
        private int at;
        private int faultPosition;
        private int faultReason;
        private int faultCause;

        Orders() {
            signs = new int[MOST_SIGNS];
            numbers = new int[MOST_NUMBERS];
            length = 0;
            at = 0;
            faultPosition = 0;
            faultReason = 0;
            faultCause = 0;
        }

        int length() {
            return length;
        }

        int append(int character) {
            if (character < 32 || character > 126) {
                return INVALID_ARGUMENT;
            }
            if (length < 0 || length >= MOST_SIGNS) {
                return LIMIT_REACHED;
            }
            signs[length] = character;
            length++;
            return length;
        }

        int empty() {
            int before = length;
            length = 0;
            return before;
        }

        int ofFault(int what) {
            switch (what) {
                case 0:
                    return faultPosition;
                case 1:
                    return faultReason;
                default:
                    return faultCause;
            }
        }

        /** Does all orders, up to the first fault; returns how many there are, or FAULTY. */
        int run(Ring ring) {
            at = 0;
            int orders = 0;
            while (at < length && orders < MOST_SIGNS) {
                int start = at;
                if (!readOrder()) {
                    return foundFault(start, 1, at - start);
                }
                int answer;
                switch (signAt(start)) {
                    case 'w':
                        answer = ring.writeCell(numbers[0], numbers[1], numbers[2]);
                        break;
                    case 'l':
                        answer = ring.loseRow(numbers[0]);
                        break;
                    case 'm':
                        answer = ring.mendRow(numbers[0]);
                        break;
                    case 's':
                        answer = ring.swapRows(numbers[0], numbers[1]);
                        break;
                    case 'a':
                        answer = ring.layAnew(numbers[0]);
                        break;
                    default:
                        answer = ring.endDays(numbers[0]);
                        break;
                }
                if (answer < 0) {
                    return foundFault(start, 2, answer);
                }
                orders++;
            }
            return orders;
        }

        private int foundFault(int position, int reason, int cause) {
            faultPosition = position;
            faultReason = reason;
            faultCause = cause;
            return FAULTY;
        }

        /** Leaves at behind the order, or where it breaks off, and then returns false. */
        private boolean readOrder() {
            int many = numbersOf(signAt(at));
            if (many == 0) {
                return false;
            }
            at++;
            for (int rank = 0; rank < many && rank < MOST_NUMBERS; rank++) {
                int number = readNumber();
                int behind = rank + 1 < many ? ',' : ';';
                if (number < 0 || signAt(at) != behind) {
                    return false;
                }
                numbers[rank] = number;
                at++;
            }
            return true;
        }

        private static int numbersOf(int sign) {
            switch (sign) {
                case 'w':
                    return 3;
                case 's':
                    return 2;
                case 'l':
                case 'm':
                case 'a':
                case 'd':
                    return 1;
                default:
                    return 0;
            }
        }

        /** Returns -1 if there is no digit. */
        private int readNumber() {
            int number = -1;
            for (int digits = 0; digits < MOST_DIGITS; digits++) {
                int sign = signAt(at);
                if (sign < '0' || sign > '9') {
                    return number;
                }
                number = Math.max(number, 0) * 10 + sign - '0';
                at++;
            }
            return number;
        }

        /** Behind the end there is a sign that no order has. */
        private int signAt(int position) {
            boolean there = position >= 0 && position < length && position < MOST_SIGNS;
            return there ? signs[position] : 0;
        }
    }
}
