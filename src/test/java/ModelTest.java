import java.util.ArrayList;
import java.util.Arrays;
import java.util.List;
import java.util.Random;
import java.util.regex.Matcher;
import java.util.regex.Pattern;

/**
 * Random runs of calls, answered by EchoMargins and by a slow model that follows the words of the
 * document with lists and objects, shares no code with the class, and tries every order of mending.
 */
public final class ModelTest {
    static final int INVALID = -1000001;
    static final int NOT_POSSIBLE = -1000002;
    static final int LIMIT = -1000003;
    static final int NOT_FOUND = -1000004;

    /** More calls than this are not promised for one object. */
    static final int MOST_CALLS = 512;

    static int wrong = 0;

    static final class Echo {
        final int row;
        final int cell;
        final int value;
        final int day;

        Echo(int row, int cell, int value, int day) {
            this.row = row;
            this.cell = cell;
            this.value = value;
            this.day = day;
        }
    }

    static final class Row {
        final int number;
        boolean lives = true;
        Integer[] cells = {0, 0, 0, 0, 0, 0, 0, 0};
        Integer[] remembered = null;
        boolean[] isWrong = new boolean[8];
        List<Echo> margin = new ArrayList<>();
        int timesLost = 0;
        int crowdedOut = 0;

        Row(int number) {
            this.number = number;
        }

        Row copy() {
            Row other = new Row(number);
            other.lives = lives;
            other.cells = cells == null ? null : cells.clone();
            other.remembered = remembered == null ? null : remembered.clone();
            other.isWrong = isWrong.clone();
            other.margin = new ArrayList<>(margin);
            other.timesLost = timesLost;
            other.crowdedOut = crowdedOut;
            return other;
        }
    }

    static final class State {
        List<Row> places = new ArrayList<>();
        int day = 0;
        int bears = 8;
        int fades = 20;
        int[] counted = new int[6];

        State copy() {
            State other = new State();
            for (Row row : places) {
                other.places.add(row.copy());
            }
            other.day = day;
            other.bears = bears;
            other.fades = fades;
            other.counted = counted.clone();
            return other;
        }

        Row row(int number) {
            for (Row row : places) {
                if (row.number == number) {
                    return row;
                }
            }
            return null;
        }

        Row above(Row row) {
            return places.get((places.indexOf(row) + places.size() - 1) % places.size());
        }

        Row below(Row row) {
            return places.get((places.indexOf(row) + 1) % places.size());
        }

        int age(Echo echo) {
            return day - echo.day;
        }

        Echo told(Row row, int cell) {
            Row holder = cell % 2 == 0 ? above(row) : below(row);
            if (holder.lives) {
                for (Echo echo : holder.margin) {
                    if (echo.row == row.number && echo.cell == cell && age(echo) <= fades) {
                        return echo;
                    }
                }
            }
            return null;
        }

        int layCell(Row row, int cell, boolean counts) {
            Row holder = cell % 2 == 0 ? above(row) : below(row);
            if (!holder.lives || row.cells[cell] == null) {
                return 0;
            }
            holder.margin.removeIf(echo -> echo.row == row.number && echo.cell == cell);
            holder.margin.add(new Echo(row.number, cell, row.cells[cell], day));
            while (holder.margin.size() > bears) {
                holder.margin.remove(0);
                holder.crowdedOut += counts ? 1 : 0;
            }
            counted[5] += counts ? 1 : 0;
            return 1;
        }

        int layRow(Row row, boolean counts) {
            int laid = 0;
            for (int cell = 0; row.lives && cell < 8; cell++) {
                laid += layCell(row, cell, counts);
            }
            return laid;
        }

        int right(Row row) {
            Integer[] due = row.lives ? row.cells : row.remembered;
            int cells = 0;
            for (int cell = 0; cell < 8; cell++) {
                Echo echo = told(row, cell);
                cells += due[cell] != null && echo != null && echo.value == due[cell] ? 1 : 0;
            }
            return cells;
        }

        int begin(int rows) {
            if (rows < 3 || rows > 9) {
                return INVALID;
            }
            places.clear();
            counted = new int[6];
            for (int number = 0; number < rows; number++) {
                places.add(new Row(number));
            }
            for (Row row : places) {
                layRow(row, false);
            }
            return places.stream().mapToInt(row -> row.margin.size()).sum();
        }

        int write(int number, int cell, int value) {
            Row row = row(number);
            if (row == null || cell < 0 || cell > 7 || value < 0 || value > 999) {
                return INVALID;
            }
            if (!row.lives) {
                return NOT_POSSIBLE;
            }
            row.cells[cell] = value;
            row.isWrong[cell] = false;
            counted[0]++;
            return layCell(row, cell, true);
        }

        int lose(int number) {
            Row row = row(number);
            if (row == null) {
                return INVALID;
            }
            if (!row.lives) {
                return NOT_POSSIBLE;
            }
            int answer = right(row);
            row.lives = false;
            row.remembered = row.cells;
            row.cells = null;
            row.isWrong = new boolean[8];
            row.margin.clear();
            row.timesLost++;
            counted[1]++;
            return answer;
        }

        int mend(int number) {
            Row row = row(number);
            if (row == null) {
                return INVALID;
            }
            if (row.lives) {
                return NOT_POSSIBLE;
            }
            int answer = right(row);
            row.cells = new Integer[8];
            for (int cell = 0; cell < 8; cell++) {
                Echo echo = told(row, cell);
                if (echo != null) {
                    row.cells[cell] = echo.value;
                    row.isWrong[cell] = row.remembered[cell] == null || row.remembered[cell] != echo.value;
                    counted[4] += row.isWrong[cell] ? 1 : 0;
                }
            }
            row.lives = true;
            counted[2]++;
            counted[3] += answer;
            layRow(above(row), true);
            layRow(below(row), true);
            layRow(row, true);
            return answer;
        }

        int swap(int one, int other) {
            Row first = row(one);
            Row second = row(other);
            if (first == null || second == null || one == other) {
                return INVALID;
            }
            if (!first.lives || !second.lives) {
                return NOT_POSSIBLE;
            }
            int from = places.indexOf(first);
            int to = places.indexOf(second);
            places.set(from, second);
            places.set(to, first);
            int forth = Math.floorMod(to - from, places.size());
            int back = Math.floorMod(from - to, places.size());
            return Math.min(forth, back);
        }

        int lay(int number) {
            Row row = row(number);
            if (row == null) {
                return INVALID;
            }
            return row.lives ? layRow(row, true) : NOT_POSSIBLE;
        }

        int days(int many) {
            if (many < 1 || many > 99) {
                return INVALID;
            }
            if (day + many > 9999) {
                return LIMIT;
            }
            day += many;
            return day;
        }

        int set(int what, int value) {
            if (what == 0 && value >= 1 && value <= 16) {
                int before = bears;
                bears = value;
                for (Row row : places) {
                    while (row.margin.size() > bears) {
                        row.margin.remove(0);
                    }
                }
                return before;
            }
            if (what == 1 && value >= 1 && value <= 99) {
                int before = fades;
                fades = value;
                return before;
            }
            return INVALID;
        }
    }

    static final class Model {
        State now = new State();
        List<State> history = new ArrayList<>();
        StringBuilder text = new StringBuilder();

        Model() {
            now.begin(5);
        }

        int changed(State before, int answer) {
            if (answer >= 0) {
                history.add(before);
                if (history.size() > 4) {
                    history.remove(0);
                }
            }
            return answer;
        }

        int cell(int number, int cell, int what) {
            Row row = now.row(number);
            if (row == null || cell < 0 || cell > 7 || what < 0 || what > 4) {
                return INVALID;
            }
            Integer value = row.lives ? row.cells[cell] : null;
            Echo echo = now.told(row, cell);
            switch (what) {
                case 0: return value == null ? NOT_FOUND : value;
                case 1: return row.isWrong[cell] ? 1 : 0;
                case 2: return echo == null ? NOT_FOUND : echo.value;
                case 3: return echo == null ? NOT_FOUND : now.age(echo);
                default: return echo != null && value != null && echo.value == value ? 1 : 0;
            }
        }

        int margin(int number, int rank, int what) {
            Row row = now.row(number);
            if (row == null || rank < 0 || what < 0 || what > 4) {
                return INVALID;
            }
            if (rank >= row.margin.size()) {
                return NOT_FOUND;
            }
            Echo echo = row.margin.get(rank);
            int age = now.age(echo);
            return new int[] {echo.row, echo.cell, echo.value, age, age > now.fades ? 1 : 0}[what];
        }

        int unknown(Row row) {
            return row.lives ? (int) Arrays.stream(row.cells).filter(value -> value == null).count() : 8;
        }

        int wrongCells(Row row) {
            int cells = 0;
            for (boolean isWrong : row.isWrong) {
                cells += isWrong ? 1 : 0;
            }
            return cells;
        }

        int row(int number, int what) {
            Row row = now.row(number);
            if (row == null || what < 0 || what > 9) {
                return INVALID;
            }
            return new int[] {now.places.indexOf(row), row.lives ? 1 : 0, now.above(row).number,
                now.below(row).number, row.margin.size(), unknown(row), wrongCells(row),
                now.right(row), row.timesLost, row.crowdedOut}[what];
        }

        int at(int place) {
            return place < 0 || place >= now.places.size() ? INVALID : now.places.get(place).number;
        }

        int would(int number, int what) {
            Row row = now.row(number);
            if (row == null || what < 0 || what > 3) {
                return INVALID;
            }
            if (row.lives) {
                return NOT_POSSIBLE;
            }
            State after = now.copy();
            int oldest = NOT_FOUND;
            for (int cell = 0; cell < 8; cell++) {
                Echo echo = now.told(row, cell);
                oldest = echo == null ? oldest : Math.max(oldest, now.age(echo));
            }
            int right = after.mend(number);
            Row mended = after.row(number);
            return new int[] {right, wrongCells(mended), unknown(mended), oldest}[what];
        }

        List<Integer> bestOrder;
        int bestSum;

        boolean findOrder() {
            List<Integer> lost = new ArrayList<>();
            for (int number = 0; number < now.places.size(); number++) {
                if (!now.row(number).lives) {
                    lost.add(number);
                }
            }
            bestOrder = null;
            bestSum = -1;
            if (lost.size() > 4) {
                return false;
            }
            tryAll(lost, new ArrayList<>());
            return true;
        }

        void tryAll(List<Integer> left, List<Integer> taken) {
            if (left.isEmpty()) {
                State after = now.copy();
                int sum = taken.stream().mapToInt(after::mend).sum();
                if (sum > bestSum) {
                    bestSum = sum;
                    bestOrder = taken;
                }
                return;
            }
            for (Integer number : left) {
                List<Integer> rest = new ArrayList<>(left);
                rest.remove(number);
                List<Integer> more = new ArrayList<>(taken);
                more.add(number);
                tryAll(rest, more);
            }
        }

        int order(int rank) {
            if (rank < 0) {
                return INVALID;
            }
            if (!findOrder()) {
                return LIMIT;
            }
            return rank < bestOrder.size() ? bestOrder.get(rank) : NOT_FOUND;
        }

        int comes() {
            return findOrder() ? bestSum : LIMIT;
        }

        static boolean safe(State state, Row row) {
            return row.lives && state.right(row) == Arrays.stream(row.cells).filter(v -> v != null).count();
        }

        /** Lets days end one by one, until a row that is safe now is so no more. */
        int safeFor() {
            List<Row> safe = new ArrayList<>();
            for (Row row : now.places) {
                if (safe(now, row) && unknown(row) < 8) {
                    safe.add(row);
                }
            }
            if (safe.isEmpty()) {
                return NOT_FOUND;
            }
            State later = now.copy();
            for (int days = 0; ; days++) {
                for (Row row : safe) {
                    if (!safe(later, later.row(row.number))) {
                        return days;
                    }
                }
                later.day++;
            }
        }

        int mean() {
            int ages = 0;
            int many = 0;
            for (Row row : now.places) {
                for (Echo echo : row.margin) {
                    if (now.age(echo) <= now.fades) {
                        ages += now.age(echo);
                        many++;
                    }
                }
            }
            return many == 0 ? NOT_FOUND : Float.floatToIntBits((float) ages / (float) many);
        }

        int share() {
            int back = 0;
            int cells = 0;
            for (Row row : now.places) {
                if (row.lives) {
                    back += now.right(row);
                    cells += 8;
                }
            }
            return cells == 0 ? NOT_FOUND : Float.floatToIntBits((float) back / (float) cells);
        }

        int count(int what) {
            int living = 0;
            int safe = 0;
            int echoes = 0;
            int faded = 0;
            int unknown = 0;
            int wrongOnes = 0;
            for (Row row : now.places) {
                living |= row.lives ? 1 << row.number : 0;
                safe |= safe(now, row) ? 1 << row.number : 0;
                echoes += row.margin.size();
                faded += (int) row.margin.stream().filter(echo -> now.age(echo) > now.fades).count();
                unknown += row.lives ? unknown(row) : 0;
                wrongOnes += row.lives ? wrongCells(row) : 0;
            }
            if (what >= 8 && what <= 13) {
                return now.counted[what - 8];
            }
            switch (what) {
                case 0: return now.places.size();
                case 1: return now.day;
                case 2: return living;
                case 3: return safe;
                case 4: return echoes;
                case 5: return faded;
                case 6: return unknown;
                case 7: return wrongOnes;
                case 14: return history.size();
                case 15: return text.length();
                case 20: return now.bears;
                case 21: return now.fades;
                default: return INVALID;
            }
        }

        int undo() {
            if (history.isEmpty()) {
                return NOT_POSSIBLE;
            }
            now = history.remove(history.size() - 1);
            return history.size();
        }

        int type(int character) {
            if (character < 32 || character > 126) {
                return INVALID;
            }
            if (text.length() == 60) {
                return LIMIT;
            }
            text.append((char) character);
            return text.length();
        }

        int clearText() {
            int before = text.length();
            text.setLength(0);
            return before;
        }

        static final Pattern ORDER = Pattern.compile(
            "w\\d{1,3},\\d{1,3},\\d{1,3};|[lmad]\\d{1,3};|s\\d{1,3},\\d{1,3};");

        int played;
        int[] foundFault;

        State run() {
            State state = now.copy();
            played = 0;
            foundFault = null;
            int start = 0;
            while (start < text.length()) {
                String rest = text.substring(start);
                Matcher matcher = ORDER.matcher(rest);
                if (!matcher.lookingAt()) {
                    foundFault = new int[] {start, 1, breaksOffAt(rest)};
                    return null;
                }
                int answer = obey(state, matcher.group());
                if (answer < 0) {
                    foundFault = new int[] {start, 2, answer};
                    return null;
                }
                played++;
                start += matcher.end();
            }
            return state;
        }

        /** The length of the longest beginning that some order has, too. */
        int breaksOffAt(String rest) {
            int good = 0;
            while (good < rest.length()) {
                Matcher matcher = ORDER.matcher(rest.substring(0, good + 1));
                if (!matcher.matches() && !matcher.hitEnd()) {
                    return good;
                }
                good++;
            }
            return good;
        }

        int obey(State state, String order) {
            String[] parts = order.substring(1, order.length() - 1).split(",");
            int[] numbers = Arrays.stream(parts).mapToInt(Integer::parseInt).toArray();
            switch (order.charAt(0)) {
                case 'w': return state.write(numbers[0], numbers[1], numbers[2]);
                case 'l': return state.lose(numbers[0]);
                case 'm': return state.mend(numbers[0]);
                case 's': return state.swap(numbers[0], numbers[1]);
                case 'a': return state.lay(numbers[0]);
                default: return state.days(numbers[0]);
            }
        }

        int fault(int what) {
            if (what < 0 || what > 2) {
                return INVALID;
            }
            run();
            return foundFault == null ? NOT_FOUND : foundFault[what];
        }

        int play() {
            State after = run();
            if (after == null) {
                return NOT_POSSIBLE;
            }
            changed(now, played);
            now = after;
            return played;
        }
    }

    /** One object and one model, led through the same calls. */
    static final class Pair {
        final EchoMargins real = new EchoMargins();
        final Model model = new Model();
        final Random random;
        final StringBuilder told = new StringBuilder();
        int calls = 0;
        boolean differs = false;

        Pair(long seed) {
            random = new Random(seed);
        }

        void same(String call, int got, int want) {
            calls++;
            told.append(call).append(" -> ").append(got).append('\n');
            if (got != want && !differs) {
                differs = true;
                wrong++;
                if (wrong <= 3) {
                    System.out.println(told + "due was " + want);
                }
            }
        }

        int below(int bound) {
            return random.nextInt(bound);
        }

        /** A number of a row, now and then one that is not there. */
        int anyRow() {
            return below(40) == 0 ? below(14) - 2 : below(model.now.places.size());
        }

        /** A number from 0 on, now and then one beside its range. */
        int upTo(int last) {
            return below(40) == 0 ? (random.nextBoolean() ? -1 : last + 1) : below(last + 1);
        }

        int anyValue() {
            return below(12) == 0 ? new int[] {-1, 0, 998, 999, 1000}[below(5)] : below(4);
        }

        int livingOrLost(boolean lives) {
            for (int tries = 0; tries < 6; tries++) {
                int number = below(model.now.places.size());
                if (model.now.row(number).lives == lives) {
                    return number;
                }
            }
            return anyRow();
        }

        void change() {
            State before = model.now.copy();
            int row = below(4) == 0 ? anyRow() : livingOrLost(true);
            int other = anyRow();
            int cell = upTo(7);
            int value = anyValue();
            switch (below(20)) {
                case 0: case 1: case 2: case 3: case 4: case 5:
                    same("write " + row + " " + cell + " " + value, real.write(row, cell, value),
                        model.changed(before, model.now.write(row, cell, value)));
                    break;
                case 6: case 7: case 8:
                    same("lose " + row, real.lose(row), model.changed(before, model.now.lose(row)));
                    break;
                case 9: case 10: case 11: case 12:
                    row = below(6) == 0 ? anyRow() : livingOrLost(false);
                    same("mend " + row, real.mend(row), model.changed(before, model.now.mend(row)));
                    break;
                case 13: case 14:
                    same("swap " + row + " " + other, real.swap(row, other),
                        model.changed(before, model.now.swap(row, other)));
                    break;
                case 15:
                    same("lay " + row, real.lay(row), model.changed(before, model.now.lay(row)));
                    break;
                case 16:
                    int days = below(10) == 0 ? upTo(99) : 1 + below(3);
                    same("days " + days, real.days(days), model.changed(before, model.now.days(days)));
                    break;
                case 17:
                    setSomething(before);
                    break;
                case 18:
                    if (below(6) == 0) {
                        int rows = 3 + upTo(6);
                        same("begin " + rows, real.begin(rows), model.changed(before, model.now.begin(rows)));
                    }
                    break;
                default:
                    same("undo", real.undo(), model.undo());
                    break;
            }
        }

        void setSomething(State before) {
            int what = upTo(1);
            int value = below(8) == 0 ? new int[] {0, 1, 16, 17, 99, 100}[below(6)] : 1 + below(12);
            same("set " + what + " " + value, real.set(what, value),
                model.changed(before, model.now.set(what, value)));
        }

        void look() {
            int row = below(3) == 0 ? livingOrLost(false) : anyRow();
            int cell = upTo(7);
            int what;
            switch (below(12)) {
                case 0: case 1:
                    what = upTo(4);
                    same("cell " + row + " " + cell + " " + what, real.cell(row, cell, what), model.cell(row, cell, what));
                    break;
                case 2: case 3:
                    what = upTo(4);
                    int rank = upTo(9);
                    same("margin " + row + " " + rank + " " + what, real.margin(row, rank, what),
                        model.margin(row, rank, what));
                    break;
                case 4: case 5:
                    what = upTo(9);
                    same("row " + row + " " + what, real.row(row, what), model.row(row, what));
                    break;
                case 6:
                    int place = anyRow();
                    same("at " + place, real.at(place), model.at(place));
                    break;
                case 7:
                    what = upTo(3);
                    same("would " + row + " " + what, real.would(row, what), model.would(row, what));
                    break;
                case 8:
                    lookForOrder();
                    break;
                case 9:
                    same("safeFor", real.safeFor(), model.safeFor());
                    same("mean", real.mean(), model.mean());
                    same("share", real.share(), model.share());
                    break;
                default:
                    what = upTo(21);
                    same("count " + what, real.count(what), model.count(what));
                    break;
            }
        }

        void lookForOrder() {
            int last = upTo(4);
            for (int rank = Math.min(last, 0); rank <= last; rank++) {
                same("order " + rank, real.order(rank), model.order(rank));
            }
            same("comes", real.comes(), model.comes());
        }

        String anyOrder() {
            int row = livingOrLost(random.nextBoolean());
            switch (below(8)) {
                case 0: return "w" + row + "," + upTo(7) + "," + anyValue() + ";";
                case 1: return "s" + row + "," + anyRow() + ";";
                case 2: return "d" + below(3) + below(4) + ";";
                case 3: return "a0" + row + ";";
                case 4: return "l" + row + ";";
                case 5: return "m00" + row + ";";
                case 6: return "m" + row + ";";
                default:
                    String broken = "w" + row + ",1,5;";
                    int cut = below(broken.length());
                    return broken.substring(0, cut) + "x 0,;w".charAt(below(6)) + broken.substring(cut);
            }
        }

        void typeOrders() {
            if (below(2) == 0) {
                same("clearText", real.clearText(), model.clearText());
            }
            String orders = "";
            for (int many = below(5); many > 0; many--) {
                orders += anyOrder();
            }
            int length = below(6) == 0 ? below(orders.length() + 1) : orders.length();
            for (int i = 0; i < length; i++) {
                int sign = below(400) == 0 ? 31 + 96 * below(2) : orders.charAt(i);
                same("type " + sign, real.type(sign), model.type(sign));
            }
            for (int what = -below(2); what < 3 + below(2); what++) {
                same("fault " + what, real.fault(what), model.fault(what));
            }
            same("play", real.play(), model.play());
        }

        void run(int textsInHundred) {
            while (calls < MOST_CALLS - 40 && !differs) {
                if (below(100) < textsInHundred) {
                    typeOrders();
                } else {
                    change();
                    for (int looks = below(5); looks > 0; looks--) {
                        look();
                    }
                }
            }
        }
    }

    public static void main(String[] args) {
        int runs = args.length > 0 ? Integer.parseInt(args[0]) : 1500;
        for (int seed = 0; seed < runs; seed++) {
            new Pair(seed).run(seed % 3 == 0 ? 10 : 1);
        }
        System.out.println(wrong == 0 ? runs + " runs answer as the model does" : wrong + " runs differ");
        if (wrong != 0) {
            System.exit(1);
        }
    }
}
