/** The boundary cases that the promises 1 to 9 name, a test for each sentence. */
public final class BoundaryRowsTest extends Boundary {

    // ---- Promise 1

    @Sentence(promise = 1, says = "Begins with 5 rows on the day 0.")
    static void aNewObject() {
        EchoMargins x = new EchoMargins();
        due("rows", x.count(0), 5);
        due("the last row", x.row(4, 1), 1);
        due("no sixth row", x.row(5, 1), INVALID);
        due("the day", x.count(1), 0);
        due("no change was done", x.undo(), NOT_POSSIBLE);
        for (int what = 5; what <= 15; what++) {
            due("count " + what, x.count(what), 0);
        }
        EchoMargins other = new EchoMargins();
        other.write(0, 0, 9);
        other.days(5);
        due("two objects have nothing together", x.cell(0, 0, 0), 0);
        due("two objects have nothing together", x.count(1), 0);
    }

    // ---- Promise 2

    @Sentence(promise = 2, says = "- `rows`: 3 to 9")
    static void rowsOfBegin() {
        for (int rows = 3; rows <= 9; rows++) {
            due("begin " + rows, new EchoMargins().begin(rows), 8 * rows);
        }
    }

    @Sentence(promise = 2, says = "INVALID_ARGUMENT if rows is out of range.")
    static void rowsOutOfRange() {
        EchoMargins x = new EchoMargins();
        refused("begin", 3, 9, x::begin);
        due("as it was", x.count(0), 5);
        due("no change", x.count(14), 0);
    }

    @Sentence(promise = 2, says = "with new rows, at their places")
    static void newRows() {
        EchoMargins x = begun(9);
        x.swap(0, 8);
        x.write(8, 1, 5);
        x.lose(2);
        x.lose(1);
        x.mend(1);
        for (int rows : new int[] {3, 9}) {
            x.begin(rows);
            due("all live", x.count(2), (1 << rows) - 1);
            due("all are safe", x.count(3), (1 << rows) - 1);
            due("none is unknown", x.count(6), 0);
            due("all echoes", x.count(4), 8 * rows);
            for (int k = 0; k < rows; k++) {
                due("place", x.row(k, 0), k);
                due("at", x.at(k), k);
                due("the last cell", x.cell(k, 7, 0), 0);
                due("the second cell", x.cell(k, 1, 0), 0);
            }
        }
    }

    @Sentence(promise = 2, says = "all that is counted so far 0")
    static void allCountedIsNothing() {
        EchoMargins x = begun(9);
        x.set(0, 4);
        x.lay(8);
        x.lay(1);
        x.lay(8);
        x.swap(2, 5);
        x.write(5, 0, 7);
        x.swap(2, 5);
        x.lose(5);
        x.mend(5);
        x.lose(8);
        x.mend(8);
        due("crowded out before", x.row(0, 9), 8);
        due("lost before", x.row(8, 8), 1);
        x.begin(9);
        for (int what = 8; what <= 13; what++) {
            due("count " + what, x.count(what), 0);
        }
        for (int row = 0; row < 9; row++) {
            due("times lost", x.row(row, 8), 0);
            due("crowded out, as the first echoes were laid, too", x.row(row, 9), 0);
        }
        due("wrong cells", x.count(7), 0);
    }

    @Sentence(promise = 2, says = "the day of now and the settings stay")
    static void daysAndSettingsStay() {
        EchoMargins x = new EchoMargins();
        x.days(99);
        x.set(0, 1);
        x.set(1, 99);
        due("one echo in each margin", x.begin(9), 9);
        due("the day", x.count(1), 99);
        due("setting 0", x.count(20), 1);
        due("setting 1", x.count(21), 99);
        due("laid on this day", x.margin(8, 0, 3), 0);
        x.begin(3);
        due("the day", x.count(1), 99);
        due("the history stays, too, and this is one change", x.count(14), 4);
    }

    @Sentence(promise = 2, says = "Returns how many echoes there are")
    static void echoesAsItBegins() {
        for (int bears = 1; bears <= 16; bears++) {
            EchoMargins x = new EchoMargins();
            x.set(0, bears);
            due("begin(9)", x.begin(9), 9 * Math.min(8, bears));
            due("begin(3)", x.begin(3), 3 * Math.min(8, bears));
            due("count(4)", x.count(4), 3 * Math.min(8, bears));
        }
    }

    // ---- Promise 3

    @Sentence(promise = 3, says = "- `row`: number of the row")
    static void rowOfWrite() {
        EchoMargins x = new EchoMargins();
        due("the first row", x.write(0, 0, 1), 1);
        due("the last row", x.write(4, 0, 1), 1);
        refused("write", 0, 4, row -> x.write(row, 0, 1));
        due("writings", x.count(8), 2);
    }

    @Sentence(promise = 3, says = "- `cell`: 0 to 7")
    static void cellOfWrite() {
        EchoMargins x = new EchoMargins();
        due("the first cell", x.write(1, 0, 3), 1);
        due("the last cell", x.write(1, 7, 4), 1);
        due("the first cell", x.cell(1, 0, 0), 3);
        due("the last cell", x.cell(1, 7, 0), 4);
        refused("write", 0, 7, cell -> x.write(1, cell, 1));
        due("the row before it", x.cell(0, 7, 0), 0);
        due("the row behind it", x.cell(2, 0, 0), 0);
    }

    @Sentence(promise = 3, says = "- `value`: 0 to 999")
    static void valueOfWrite() {
        EchoMargins x = new EchoMargins();
        due("the greatest one", x.write(1, 0, 999), 1);
        refused("write", 0, 999, value -> x.write(1, 0, value));
        due("it stays", x.cell(1, 0, 0), 999);
        due("the least one", x.write(1, 0, 0), 1);
        due("it is 0", x.cell(1, 0, 0), 0);
    }

    @Sentence(promise = 3, says = "Returns 1 if its echo is laid, otherwise 0")
    static void whatWriteReturns() {
        EchoMargins x = new EchoMargins();
        x.set(0, 1);
        due("in a margin that bears one", x.write(2, 0, 5), 1);
        due("the same again", x.write(2, 0, 5), 1);
        x.lose(1);
        due("the upper neighbour is lost", x.write(2, 0, 6), 0);
        due("the lower one is not", x.write(2, 1, 6), 1);
        x.lose(3);
        due("the lower neighbour is lost", x.write(2, 7, 6), 0);
        due("written all the same", x.count(8), 5);
        due("laid", x.count(13), 3);
        EchoMargins wrapped = new EchoMargins();
        wrapped.lose(4);
        due("the last row is lost", wrapped.write(0, 0, 1), 0);
        wrapped.mend(4);
        wrapped.lose(0);
        due("the first row is lost", wrapped.write(4, 7, 1), 0);
    }

    @Sentence(promise = 3, says = "INVALID_ARGUMENT if an argument is out of range")
    static void argumentsOfWrite() {
        EchoMargins x = new EchoMargins();
        due("all of them", x.write(-1, -1, -1), INVALID);
        due("row and cell that make another cell", x.write(1, -8, 0), INVALID);
        due("row and cell that make another cell", x.write(0, 8, 0), INVALID);
        due("row and cell that make another cell", x.write(-1, 8, 0), INVALID);
        due("no writing", x.count(8), 0);
    }

    @Sentence(promise = 3, says = "NOT_POSSIBLE if the row is lost.")
    static void writeOfALostRow() {
        for (int row = 0; row < 5; row++) {
            EchoMargins x = new EchoMargins();
            x.lose(row);
            due("lost", x.write(row, 0, 5), NOT_POSSIBLE);
            due("would come back as it was", x.would(row, 0), 8);
            x.mend(row);
            due("mended", x.write(row, 0, 5), 1);
        }
    }

    // ---- Promise 4

    @Sentence(promise = 4, says = "- `row`: number of the row")
    static void rowOfLose() {
        EchoMargins x = begun(9);
        refused("lose", 0, 8, x::lose);
        due("the last row", x.lose(8), 8);
        due("the first row, its neighbour", x.lose(0), 4);
        due("rows lost", x.count(9), 2);
    }

    @Sentence(promise = 4, says = "Returns how many of its cells would come back as they are, if it was mended now")
    static void whatLoseReturns() {
        for (int many = 0; many <= 8; many++) {
            EchoMargins x = new EchoMargins();
            x.days(21);
            for (int cell = 0; cell < many; cell++) {
                x.write(1, cell, cell);
            }
            due("cells with echoes", x.lose(1), many);
            due("and mended", x.mend(1), many);
        }
        EchoMargins last = new EchoMargins();
        for (int lost = 0; lost < 4; lost++) {
            due("the row " + lost, last.lose(lost), lost == 0 ? 8 : 4);
        }
        due("the last row that lives", last.lose(4), 0);
        due("none lives", last.count(2), 0);
        EchoMargins old = new EchoMargins();
        old.set(0, 16);
        old.swap(0, 3);
        old.write(1, 0, 5);
        old.swap(0, 3);
        due("one echo is of another value", old.lose(1), 7);
    }

    @Sentence(promise = 4, says = "INVALID_ARGUMENT; NOT_POSSIBLE if it is lost.")
    static void loseOfALostRow() {
        EchoMargins x = new EchoMargins();
        for (int row = 0; row < 5; row++) {
            x.lose(row);
            due("again", x.lose(row), NOT_POSSIBLE);
            due("lost once", x.row(row, 8), 1);
        }
        due("no such row", x.lose(5), INVALID);
        due("rows lost", x.count(9), 5);
        x.mend(0);
        due("it lives again", x.lose(0), 0);
        due("lost twice", x.row(0, 8), 2);
    }

    // ---- Promise 5

    @Sentence(promise = 5, says = "- `row`: number of the row")
    static void rowOfMend() {
        EchoMargins x = begun(9);
        refused("mend", 0, 8, x::mend);
        x.lose(8);
        due("the last row", x.mend(8), 8);
        x.lose(0);
        due("the first row", x.mend(0), 8);
        due("rows mended", x.count(10), 2);
    }

    @Sentence(promise = 5, says = "Returns how many of its cells come back as they were")
    static void whatMendReturns() {
        for (int many = 0; many <= 8; many++) {
            EchoMargins x = new EchoMargins();
            x.set(1, 1);
            x.days(1);
            for (int cell = 7; cell > 7 - many; cell--) {
                x.write(0, cell, 0);
            }
            x.lose(0);
            x.days(1);
            due("cells with echoes", x.mend(0), many);
            due("came back", x.count(11), many);
            due("unknown", x.row(0, 5), 8 - many);
        }
        EchoMargins y = new EchoMargins();
        y.lose(1);
        y.lose(2);
        y.lose(0);
        due("no neighbour lives", y.mend(1), 0);
        due("neighbours live, but their margins are empty", y.mend(0), 4);
    }

    @Sentence(promise = 5, says = "INVALID_ARGUMENT; NOT_POSSIBLE if it lives.")
    static void mendOfARowThatLives() {
        EchoMargins x = new EchoMargins();
        for (int row = 0; row < 5; row++) {
            due("at first", x.mend(row), NOT_POSSIBLE);
            x.lose(row);
            due("lost", x.mend(row), 8);
            due("mended", x.mend(row), NOT_POSSIBLE);
        }
        due("no such row", x.mend(5), INVALID);
        due("rows mended", x.count(10), 5);
    }

    // ---- Promise 6

    @Sentence(promise = 6, says = "Returns how far their places are from one another, the shorter way round")
    static void theShorterWayRound() {
        for (int rows = 3; rows <= 9; rows++) {
            for (int one = 0; one < rows; one++) {
                for (int other = 0; other < rows; other++) {
                    int way = (one - other + rows) % rows;
                    int back = (other - one + rows) % rows;
                    due("swap of " + one + " and " + other + " of " + rows, begun(rows).swap(one, other),
                        one == other ? INVALID : Math.min(way, back));
                }
            }
        }
        EchoMargins x = begun(9);
        due("the first and the last one", x.swap(0, 8), 1);
        due("by their places, not their numbers", x.swap(0, 1), 2);
        due("by their places, not their numbers", x.swap(8, 0), 1);
    }

    @Sentence(promise = 6, says = "- `one`: number of the one row")
    static void oneOfSwap() {
        for (int rows = 3; rows <= 9; rows++) {
            EchoMargins x = begun(rows);
            refused("swap", 0, rows - 1, row -> x.swap(row, 1));
            due("the first row", Math.min(x.swap(0, 1), 0), 0);
            due("the last row", Math.min(x.swap(rows - 1, 1), 0), 0);
            due("changes", x.count(14), 3);
        }
    }

    @Sentence(promise = 6, says = "- `other`: number of another one")
    static void otherOfSwap() {
        for (int rows = 3; rows <= 9; rows++) {
            EchoMargins x = begun(rows);
            refused("swap", 0, rows - 1, row -> x.swap(1, row));
            due("itself", x.swap(1, 1), INVALID);
            due("the first row", Math.min(x.swap(1, 0), 0), 0);
            due("the last row", Math.min(x.swap(1, rows - 1), 0), 0);
            due("changes", x.count(14), 3);
        }
    }

    @Sentence(promise = 6, says = "INVALID_ARGUMENT if there is no such row, or both are the same")
    static void rowsOfSwap() {
        EchoMargins x = new EchoMargins();
        refused("one", 0, 4, row -> x.swap(row, 2));
        refused("other", 0, 4, row -> x.swap(2, row));
        refused("both", 0, 4, row -> x.swap(row, row));
        for (int row = 0; row < 5; row++) {
            due("the same", x.swap(row, row), INVALID);
        }
        due("no change", x.count(14), 0);
    }

    @Sentence(promise = 6, says = "NOT_POSSIBLE if one of them is lost.")
    static void swapOfALostRow() {
        EchoMargins x = new EchoMargins();
        x.lose(2);
        due("the one", x.swap(2, 3), NOT_POSSIBLE);
        due("the other", x.swap(3, 2), NOT_POSSIBLE);
        due("its neighbours", x.swap(1, 3), 2);
        x.lose(3);
        due("both", x.swap(2, 3), NOT_POSSIBLE);
        due("places", x.at(1) * 100 + x.at(2) * 10 + x.at(3), 321);
    }

    // ---- Promise 7

    @Sentence(promise = 7, says = "- `row`: number of the row")
    static void rowOfLay() {
        EchoMargins x = begun(3);
        refused("lay", 0, 2, x::lay);
        due("the first row", x.lay(0), 8);
        due("the last row", x.lay(2), 8);
        due("laid", x.count(13), 16);
    }

    @Sentence(promise = 7, says = "Returns how many echoes are laid")
    static void whatLayReturns() {
        EchoMargins x = new EchoMargins();
        x.set(0, 1);
        due("those that go again at once, too", x.lay(1), 8);
        due("three of each margin went", x.row(0, 9) * 10 + x.row(2, 9), 44);
        due("echoes", x.count(4), 5);
        x.lose(0);
        due("the lower ones", x.lay(1), 4);
        x.lose(2);
        due("none", x.lay(1), 0);
        EchoMargins y = new EchoMargins();
        y.lose(0);
        y.lose(1);
        y.mend(1);
        due("of cells that are known", y.lay(1), 4);
        y.mend(0);
        due("of cells that are known", y.lay(1), 4);
        y.write(1, 6, 0);
        due("of one more", y.lay(1), 5);
    }

    @Sentence(promise = 7, says = "INVALID_ARGUMENT; NOT_POSSIBLE if it is lost.")
    static void layOfALostRow() {
        EchoMargins x = new EchoMargins();
        x.lose(4);
        due("lost", x.lay(4), NOT_POSSIBLE);
        due("no such row", x.lay(5), INVALID);
        due("laid", x.count(13), 0);
        x.mend(4);
        due("mended", x.lay(4), 8);
    }

    // ---- Promise 8

    @Sentence(promise = 8, says = "- `many`: 1 to 99")
    static void manyOfDays() {
        EchoMargins x = new EchoMargins();
        due("the least", x.days(1), 1);
        due("the most", x.days(99), 100);
        due("98", x.days(98), 198);
    }

    @Sentence(promise = 8, says = "Returns the day of now then")
    static void whatDaysReturns() {
        EchoMargins x = new EchoMargins();
        int day = 0;
        for (int many = 1; many <= 99; many++) {
            day += many;
            due("days " + many, x.days(many), day);
            due("count(1)", x.count(1), day);
        }
        x.undo();
        due("undone", x.days(1), day - 99 + 1);
    }

    @Sentence(promise = 8, says = "INVALID_ARGUMENT if many is out of range")
    static void manyOutOfRange() {
        EchoMargins x = new EchoMargins();
        refused("days", 1, 99, x::days);
        due("the day", x.count(1), 0);
        due("no change", x.count(14), 0);
    }

    @Sentence(promise = 8, says = "LIMIT_REACHED if it would be above 9999.")
    static void theLastDay() {
        EchoMargins x = new EchoMargins();
        for (int day = 99; day <= 9900; day += 99) {
            due("days(99)", x.days(99), day);
        }
        due("days(98)", x.days(98), 9998);
        due("2 more", x.days(2), LIMIT);
        due("99 more", x.days(99), LIMIT);
        due("1 more", x.days(1), 9999);
        due("1 more", x.days(1), LIMIT);
        due("the day", x.count(1), 9999);
        due("undone", x.undo(), 3);
        due("again", x.days(1), 9999);
        due("begun anew on the last day", x.begin(3), 24);
        due("the day", x.days(1), LIMIT);
    }

    // ---- Promise 9

    @Sentence(promise = 9, says = "- `what`: 0 or 1")
    static void whatOfSet() {
        EchoMargins x = new EchoMargins();
        refused("set", 0, 1, what -> x.set(what, 5));
        due("0", x.set(0, 5), 8);
        due("1", x.set(1, 5), 20);
        due("the rows are as they were", x.count(0), 5);
        due("the day, too", x.count(1), 0);
    }

    @Sentence(promise = 9, says = "- `value`: a value in its range")
    static void valueOfSet() {
        EchoMargins x = new EchoMargins();
        refused("set 0", 1, 16, value -> x.set(0, value));
        refused("set 1", 1, 99, value -> x.set(1, value));
        due("17 is in the range of setting 1 alone", x.set(1, 17), 20);
        for (int value = 1; value <= 16; value++) {
            due("set 0 to " + value, x.set(0, value), value == 1 ? 8 : value - 1);
        }
        for (int value = 1; value <= 99; value++) {
            due("set 1 to " + value, x.set(1, value), value == 1 ? 17 : value - 1);
        }
    }

    @Sentence(promise = 9, says = "Returns what it was")
    static void whatSetReturns() {
        EchoMargins x = new EchoMargins();
        due("the first value of 0", x.set(0, 16), 8);
        due("the first value of 1", x.set(1, 99), 20);
        due("the most", x.set(0, 16), 16);
        due("the most", x.set(1, 99), 99);
        x.undo();
        x.undo();
        due("undone", x.set(0, 1), 16);
        due("undone", x.set(1, 1), 99);
        due("the least", x.set(0, 1), 1);
        due("the least", x.set(1, 1), 1);
    }

    @Sentence(promise = 9, says = "INVALID_ARGUMENT if an argument is out of range.")
    static void argumentsOfSet() {
        EchoMargins x = new EchoMargins();
        due("both", x.set(2, 0), INVALID);
        due("both", x.set(-1, 100), INVALID);
        due("what, with a value of 0", x.set(-1, 8), INVALID);
        due("what, with a value of 1", x.set(2, 20), INVALID);
        due("value of 1 for 0", x.set(0, 20), INVALID);
        due("setting 0", x.count(20), 8);
        due("setting 1", x.count(21), 20);
        due("echoes", x.count(4), 40);
    }

    public static void main(String[] args) throws Exception {
        runAll(BoundaryRowsTest.class);
    }
}
