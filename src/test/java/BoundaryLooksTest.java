/** The boundary cases that the promises 10 to 20 name, a test for each sentence. */
public final class BoundaryLooksTest extends Boundary {

    /** The cell 0 of the row 1 has an echo of 10 at the row 0, and its value is 0; margins bear 16 echoes. */
    private static EchoMargins withAnOldEcho() {
        EchoMargins x = new EchoMargins();
        x.set(0, 16);
        x.write(1, 0, 10);
        x.swap(0, 3);
        x.write(1, 0, 0);
        x.swap(0, 3);
        return x;
    }

    /** The row 1 has four even cells that are unknown; margins bear 16 echoes, and none of these cells has one. */
    private static EchoMargins withUnknownCells() {
        EchoMargins x = new EchoMargins();
        x.set(0, 16);
        x.lose(0);
        x.lose(1);
        x.mend(1);
        return x;
    }

    /** All rows are laid anew today, but margins beside the rows 1 and 2 have echoes of the other one that are 3 days old. */
    private static EchoMargins withEchoesOfOthers() {
        EchoMargins x = new EchoMargins();
        x.set(0, 16);
        x.swap(1, 2);
        x.lay(1);
        x.lay(2);
        x.swap(1, 2);
        x.days(3);
        for (int row = 0; row < 5; row++) {
            x.lay(row);
        }
        return x;
    }

    private static EchoMargins withLost(int rows, int lost) {
        EchoMargins x = begun(rows);
        for (int row = 0; row < lost; row++) {
            x.lose(row);
        }
        return x;
    }

    // ---- Promise 10

    @Sentence(promise = 10, says = "- `cell`: 0 to 7")
    static void cellOfCell() {
        EchoMargins x = new EchoMargins();
        for (int what = 0; what <= 4; what++) {
            int asked = what;
            refused("cell, what " + what, 0, 7, cell -> x.cell(1, cell, asked));
        }
        x.write(1, 0, 3);
        x.write(1, 7, 4);
        due("the first one", x.cell(1, 0, 0) * 10 + x.cell(1, 0, 2), 33);
        due("the last one", x.cell(1, 7, 0) * 10 + x.cell(1, 7, 2), 44);
    }

    @Sentence(promise = 10, says = "- `row`: number of the row")
    static void rowOfCell() {
        EchoMargins x = begun(9);
        for (int what = 0; what <= 4; what++) {
            int asked = what;
            refused("cell, what " + what, 0, 8, row -> x.cell(row, 0, asked));
        }
        due("the first row", x.cell(0, 0, 4), 1);
        due("the last row", x.cell(8, 7, 4), 1);
    }

    @Sentence(promise = 10, says = "INVALID_ARGUMENT if an argument is out of range")
    static void whatOfCell() {
        EchoMargins x = new EchoMargins();
        refused("cell", 0, 4, what -> x.cell(0, 0, what));
        x.lose(0);
        refused("cell of a lost row", 0, 4, what -> x.cell(0, 0, what));
    }

    @Sentence(promise = 10, says = "1: 1 if it is wrong, since its row was mended (until it is written), otherwise 0")
    static void wrongUntilItIsWritten() {
        EchoMargins x = withAnOldEcho();
        due("before", x.cell(1, 0, 1), 0);
        x.lose(1);
        due("lost", x.cell(1, 0, 1), 0);
        x.mend(1);
        due("mended", x.cell(1, 0, 1), 1);
        due("another cell", x.cell(1, 1, 1), 0);
        x.lay(1);
        x.days(99);
        x.swap(1, 2);
        due("whatever else is done", x.cell(1, 0, 1), 1);
        x.write(1, 1, 10);
        due("another cell is written", x.cell(1, 0, 1), 1);
        x.write(1, 0, 10);
        due("written with the value that it has", x.cell(1, 0, 1), 0);
        x.undo();
        due("undone", x.cell(1, 0, 1), 1);
        x.lose(1);
        due("lost again", x.cell(1, 0, 1), 0);
        EchoMargins last = new EchoMargins();
        last.swap(2, 4);
        last.write(1, 7, 10);
        last.swap(2, 4);
        last.lose(1);
        last.mend(1);
        due("the last cell", last.cell(1, 7, 1), 1);
        last.lose(2);
        due("another row is lost", last.cell(1, 7, 1), 1);
        last.mend(2);
        due("and mended", last.cell(1, 7, 1), 1);
        last.lose(0);
        last.mend(0);
        due("and another one", last.cell(1, 7, 1), 1);
    }

    @Sentence(promise = 10, says = "2: the value of its echo at the neighbour of now, if it is not faded")
    static void valueOfTheEcho() {
        EchoMargins x = withAnOldEcho();
        due("another value than the cell has", x.cell(1, 0, 2), 10);
        x.days(20);
        due("as old as it may be", x.cell(1, 0, 2), 10);
        x.days(1);
        due("faded", x.cell(1, 0, 2), NOT_FOUND);
        x.set(1, 21);
        due("not faded", x.cell(1, 0, 2), 10);
        x.swap(0, 4);
        due("another neighbour", x.cell(1, 0, 2), NOT_FOUND);
        x.swap(1, 3);
        due("the lower neighbour alone has it", x.cell(1, 0, 2), NOT_FOUND);
        due("the upper neighbour has odd ones of old", x.cell(1, 1, 2), NOT_FOUND);
    }

    @Sentence(promise = 10, says = "3: the age of that")
    static void ageOfTheEcho() {
        EchoMargins x = new EchoMargins();
        due("laid today", x.cell(4, 7, 3), 0);
        x.set(1, 99);
        x.days(99);
        due("as old as it may be", x.cell(4, 7, 3), 99);
        x.write(4, 7, 0);
        due("laid anew", x.cell(4, 7, 3), 0);
        x.days(1);
        due("a day later", x.cell(4, 7, 3), 1);
        due("the others are faded", x.cell(4, 5, 3), NOT_FOUND);
    }

    @Sentence(promise = 10, says = "4: 1 if there is such an echo of the value that it has, otherwise 0 (of a lost row, too)")
    static void echoOfTheValue() {
        EchoMargins x = withAnOldEcho();
        due("another value", x.cell(1, 0, 4), 0);
        due("the same value", x.cell(1, 2, 4), 1);
        x.days(20);
        due("as old as it may be", x.cell(1, 2, 4), 1);
        x.days(1);
        due("faded", x.cell(1, 2, 4), 0);
        x.lay(1);
        due("laid anew", x.cell(1, 0, 4), 1);
        x.lose(0);
        due("its neighbour is lost", x.cell(1, 0, 4), 0);
        due("the other one is not", x.cell(1, 1, 4), 1);
        x.lose(1);
        due("lost, though there is an echo", x.cell(1, 1, 4), 0);
        due("that tells its value", x.cell(1, 1, 2), 0);
        EchoMargins y = withUnknownCells();
        due("unknown, and no echo", y.cell(1, 0, 4), 0);
    }

    @Sentence(promise = 10, says = "NOT_FOUND for 0 if the row is lost, or the cell is unknown")
    static void noValue() {
        EchoMargins x = withUnknownCells();
        for (int cell = 0; cell < 8; cell++) {
            due("of a lost row", x.cell(0, cell, 0), NOT_FOUND);
            due("unknown, if even", x.cell(1, cell, 0), cell % 2 == 0 ? NOT_FOUND : 0);
            due("wrong", x.cell(0, cell, 1) + x.cell(1, cell, 1), 0);
        }
        x.write(1, 0, 0);
        due("written", x.cell(1, 0, 0), 0);
    }

    @Sentence(promise = 10, says = "for 2 and 3 if there is no such echo.")
    static void noEcho() {
        EchoMargins x = new EchoMargins();
        x.set(0, 7);
        due("the first one went", x.cell(1, 0, 2), NOT_FOUND);
        due("the first one went", x.cell(1, 0, 3), NOT_FOUND);
        due("the second one is there", x.cell(1, 2, 2), 0);
        x.days(21);
        due("faded", x.cell(1, 2, 2), NOT_FOUND);
        due("faded", x.cell(1, 2, 3), NOT_FOUND);
        x.lay(1);
        x.lose(0);
        due("its neighbour is lost", x.cell(1, 2, 2), NOT_FOUND);
        due("its neighbour is lost", x.cell(1, 2, 3), NOT_FOUND);
        x.lose(1);
        due("of a lost row there is one", x.cell(1, 1, 2), 0);
        due("of a lost row there is one", x.cell(1, 1, 3), 0);
    }

    // ---- Promise 11

    @Sentence(promise = 11, says = "- `row`: number of the row whose margin it is")
    static void rowOfMargin() {
        EchoMargins x = begun(9);
        refused("margin", 0, 8, row -> x.margin(row, 0, 0));
        due("of the first row", x.margin(0, 0, 0), 1);
        due("of the last row", x.margin(8, 0, 0), 0);
        due("of the last row", x.margin(8, 7, 0), 7);
    }

    @Sentence(promise = 11, says = "- `rank`: 0 for the first one, and so on")
    static void rankOfMargin() {
        EchoMargins x = new EchoMargins();
        x.set(0, 16);
        x.swap(1, 3);
        x.lay(3);
        due("the first one", x.margin(0, 0, 0) * 10 + x.margin(0, 0, 1), 10);
        due("the last one", x.margin(0, 11, 0) * 10 + x.margin(0, 11, 1), 36);
        due("none behind it", x.margin(0, 12, 0), NOT_FOUND);
        due("nor behind it", x.margin(0, 16, 0), NOT_FOUND);
    }

    @Sentence(promise = 11, says = "- `what`: 0: the row of which it is; 1: the cell; 2: its value; 3: its age")
    static void whatThereIsOfAnEcho() {
        EchoMargins x = begun(9);
        x.write(0, 0, 999);
        x.days(99);
        x.write(8, 7, 998);
        x.write(7, 7, 0);
        dueEcho(x, 8, 6, 0, 0, 999, 99);
        dueEcho(x, 8, 7, 7, 7, 0, 0);
        dueEcho(x, 0, 7, 8, 7, 998, 0);
        dueEcho(x, 0, 0, 1, 0, 0, 99);
    }

    private static void dueEcho(EchoMargins x, int row, int rank, int of, int cell, int value, int age) {
        due("row", x.margin(row, rank, 0), of);
        due("cell", x.margin(row, rank, 1), cell);
        due("value", x.margin(row, rank, 2), value);
        due("age", x.margin(row, rank, 3), age);
    }

    @Sentence(promise = 11, says = "INVALID_ARGUMENT if an argument is out of range (rank is not below 0)")
    static void argumentsOfMargin() {
        EchoMargins x = new EchoMargins();
        due("rank -1", x.margin(1, -1, 0), INVALID);
        due("rank -16", x.margin(1, -16, 0), INVALID);
        due("the least rank", x.margin(1, Integer.MIN_VALUE, 0), INVALID);
        refused("margin", 0, 4, what -> x.margin(1, 0, what));
        refused("margin, too far", 0, 4, what -> x.margin(1, 8, what));
        due("rank -1 of a lost row", x.margin(1, -1, 4), INVALID);
    }

    @Sentence(promise = 11, says = "NOT_FOUND if there are not so many")
    static void notSoManyEchoes() {
        EchoMargins x = new EchoMargins();
        for (int bears = 8; bears >= 1; bears--) {
            x.set(0, bears);
            for (int what = 0; what <= 4; what++) {
                due("rank " + bears, x.margin(4, bears, what), NOT_FOUND);
            }
            due("rank " + (bears - 1), x.margin(4, bears - 1, 1), 7);
        }
        due("the greatest rank", x.margin(4, Integer.MAX_VALUE, 0), NOT_FOUND);
    }

    @Sentence(promise = 11, says = "also if the row is lost.")
    static void marginOfALostRow() {
        EchoMargins x = begun(3);
        for (int row = 0; row < 3; row++) {
            x.lose(row);
            for (int what = 0; what <= 4; what++) {
                due("the first one", x.margin(row, 0, what), NOT_FOUND);
            }
        }
        x.mend(0);
        due("mended, but empty", x.margin(0, 0, 0), NOT_FOUND);
    }

    @Sentence(promise = 11, says = "4: 1 if it is faded, otherwise 0")
    static void fadedInAMargin() {
        EchoMargins x = new EchoMargins();
        x.set(1, 1);
        due("of age 0", x.margin(0, 7, 4), 0);
        x.days(1);
        due("of age 1", x.margin(0, 7, 4), 0);
        x.days(1);
        due("of age 2", x.margin(0, 7, 4), 1);
        due("its age", x.margin(0, 7, 3), 2);
        due("its value", x.margin(0, 7, 2), 0);
    }

    // ---- Promise 12

    @Sentence(promise = 12, says = "- `row`: number of the row")
    static void rowOfRow() {
        EchoMargins x = begun(3);
        for (int what = 0; what <= 9; what++) {
            int asked = what;
            refused("row, what " + what, 0, 2, row -> x.row(row, asked));
        }
        due("the last row", x.row(2, 0), 2);
    }

    @Sentence(promise = 12, says = "INVALID_ARGUMENT if an argument is out of range.")
    static void whatOfRow() {
        EchoMargins x = new EchoMargins();
        refused("row", 0, 9, what -> x.row(0, what));
        x.lose(0);
        refused("row, lost", 0, 9, what -> x.row(0, what));
    }

    @Sentence(promise = 12, says = "0: its place")
    static void placeOfARow() {
        EchoMargins x = begun(9);
        x.swap(0, 8);
        due("of the first row", x.row(0, 0), 8);
        due("of the last row", x.row(8, 0), 0);
        x.lose(0);
        due("of a lost row", x.row(0, 0), 8);
        for (int row = 0; row < 9; row++) {
            due("it is there", x.at(x.row(row, 0)), row);
        }
    }

    @Sentence(promise = 12, says = "1: 1 if it lives, otherwise 0; 2: its upper neighbour; 3: its lower one")
    static void neighboursOfLostRows() {
        EchoMargins x = begun(3);
        for (int row = 0; row < 3; row++) {
            due("lives", x.row(row, 1), 1);
            x.lose(row);
            due("lost", x.row(row, 1), 0);
        }
        for (int row = 0; row < 3; row++) {
            due("place", x.row(row, 0), row);
            due("upper", x.row(row, 2), (row + 2) % 3);
            due("lower", x.row(row, 3), (row + 1) % 3);
        }
    }

    @Sentence(promise = 12, says = "4: echoes in its margin")
    static void echoesInAMargin() {
        EchoMargins x = new EchoMargins();
        x.set(0, 16);
        due("eight", x.row(0, 4), 8);
        x.swap(1, 3);
        x.lay(3);
        x.swap(3, 2);
        x.lay(2);
        due("sixteen", x.row(0, 4), 16);
        x.days(99);
        due("faded ones, too", x.row(0, 4), 16);
        x.lose(0);
        due("lost", x.row(0, 4), 0);
        x.lose(2);
        x.lose(4);
        x.mend(0);
        due("mended with nothing", x.row(0, 4), 0);
        EchoMargins each = begun(9);
        for (int row = 0; row < 9; row++) {
            each.swap(8 - row, row);
            each.lay(row);
            for (int other = 0; other < 9; other++) {
                due("as many as can be asked for", each.margin(other, each.row(other, 4), 0), NOT_FOUND);
                due("as many as can be asked for", Math.min(each.margin(other, each.row(other, 4) - 1, 0), 0), 0);
            }
        }
    }

    @Sentence(promise = 12, says = "5: cells that are unknown (8 if it is lost)")
    static void unknownCellsOfARow() {
        EchoMargins x = new EchoMargins();
        due("none", x.row(1, 5), 0);
        x.lose(1);
        due("lost", x.row(1, 5), 8);
        x.days(21);
        x.mend(1);
        due("all are unknown", x.row(1, 5), 8);
        for (int cell = 0; cell < 8; cell++) {
            x.write(1, cell, 0);
            due("written", x.row(1, 5), 7 - cell);
        }
    }

    @Sentence(promise = 12, says = "6: cells that are wrong")
    static void wrongCellsOfARow() {
        EchoMargins x = new EchoMargins();
        x.set(0, 16);
        x.swap(0, 3);
        x.swap(2, 4);
        for (int cell = 0; cell < 8; cell++) {
            x.write(1, cell, 5);
        }
        x.swap(0, 3);
        x.swap(2, 4);
        x.lose(1);
        due("none comes back as it was", x.mend(1), 0);
        due("all are wrong", x.row(1, 6), 8);
        due("none is unknown", x.row(1, 5), 0);
        for (int cell = 0; cell < 8; cell++) {
            x.write(1, cell, 0);
            due("written", x.row(1, 6), 7 - cell);
        }
        x.undo();
        due("one", x.row(1, 6), 1);
        x.lose(1);
        due("lost", x.row(1, 6), 0);
    }

    @Sentence(promise = 12, says = "7: cells that would come back as they are, if it was lost and mended now")
    static void cellsThatWouldComeBack() {
        EchoMargins x = new EchoMargins();
        due("all", x.row(0, 7), 8);
        x.days(20);
        due("as old as they may be", x.row(0, 7), 8);
        x.write(0, 0, 1);
        x.days(1);
        due("one is not faded", x.row(0, 7), 1);
        x.lose(4);
        due("its neighbour is lost", x.row(0, 7), 0);
        x.lay(0);
        due("the odd ones are laid", x.row(0, 7), 4);
        due("an old echo of another value", withAnOldEcho().row(1, 7), 7);
        due("unknown ones do not", withUnknownCells().row(1, 7), 4);
    }

    @Sentence(promise = 12, says = "7: cells that would come back")
    static void echoesOfOtherRowsBringNothing() {
        EchoMargins x = withEchoesOfOthers();
        due("four odd cells of the row 1 are there, too", x.row(3, 4), 12);
        for (int row = 0; row < 5; row++) {
            due("all eight", x.row(row, 7), 8);
        }
        for (int row = 1; row <= 2; row++) {
            x.lose(row);
            due("all eight, and no more", x.would(row, 0) * 100 + x.would(row, 1) * 10 + x.would(row, 2), 800);
            due("the echoes of others are not used", x.would(row, 3), 0);
            x.undo();
        }
        due("nor asked for", x.safeFor(), 21);
    }

    @Sentence(promise = 12, says = "(of a lost one as they were)")
    static void cellsOfALostRowThatWouldComeBack() {
        EchoMargins x = new EchoMargins();
        x.write(0, 0, 5);
        x.lose(0);
        due("all", x.row(0, 7), 8);
        x.lose(4);
        due("its neighbour is lost", x.row(0, 7), 4);
        x.days(21);
        due("faded", x.row(0, 7), 0);
        EchoMargins old = withAnOldEcho();
        old.lose(1);
        due("an old echo of another value", old.row(1, 7), 7);
        EchoMargins unknown = withUnknownCells();
        unknown.lose(1);
        due("unknown ones never do", unknown.row(1, 7), 4);
    }

    @Sentence(promise = 12, says = "8: how often it was lost so far")
    static void howOftenItWasLost() {
        EchoMargins x = begun(9);
        for (int i = 0; i < 40; i++) {
            due("so often", x.row(8, 8), i);
            x.lose(8);
            x.lose(8);
            due("once more", x.row(8, 8), i + 1);
            x.mend(8);
        }
        due("the others", x.row(0, 8) + x.row(7, 8), 0);
        due("together", x.count(9), 40);
        x.undo();
        x.undo();
        due("undone", x.row(8, 8), 39);
    }

    @Sentence(promise = 12,
        says = "9: echoes that its margin lost as others were laid, so far (not those of the same cell)")
    static void echoesThatWereCrowdedOut() {
        EchoMargins x = new EchoMargins();
        for (int i = 0; i < 9; i++) {
            x.lay(1);
        }
        due("those of the same cell", x.row(0, 9), 0);
        x.set(0, 2);
        due("those that the setting takes", x.row(0, 9), 0);
        x.write(1, 0, 1);
        due("one", x.row(0, 9), 1);
        x.write(1, 0, 2);
        due("the same cell, in a full margin", x.row(0, 9), 1);
        x.lay(1);
        due("three more, and one of the same cell", x.row(0, 9), 1 + 3);
        x.lose(0);
        due("those that are gone with the row", x.row(0, 9), 4);
        x.mend(0);
        due("laid as it was mended: 4 and 4, of which 2 stay", x.row(0, 9), 4 + 6);
    }

    // ---- Promise 13

    @Sentence(promise = 13, says = "- `place`: 0 and on")
    static void placesOfAt() {
        EchoMargins x = begun(9);
        x.swap(0, 8);
        due("the first place", x.at(0), 8);
        due("the last place", x.at(8), 0);
        x.lose(8);
        due("of a lost row", x.at(0), 8);
    }

    @Sentence(promise = 13, says = "INVALID_ARGUMENT if there is no such place.")
    static void noSuchPlace() {
        EchoMargins x = begun(9);
        for (int rows = 9; rows >= 3; rows--) {
            x.begin(rows);
            refused("at", 0, rows - 1, x::at);
            due("the last place", x.at(rows - 1), rows - 1);
        }
    }

    // ---- Promise 14

    @Sentence(promise = 14, says = "- `row`: number of the row")
    static void rowOfWould() {
        EchoMargins x = begun(9);
        x.lose(8);
        x.lose(0);
        refused("would", 0, 8, row -> x.would(row, 0));
        due("the first row", x.would(0, 0), 4);
        due("the last row", x.would(8, 0), 4);
    }

    @Sentence(promise = 14, says = "INVALID_ARGUMENT if an argument is out of range")
    static void whatOfWould() {
        EchoMargins x = new EchoMargins();
        refused("would of a row that lives", 0, 3, what -> x.would(1, what));
        x.lose(1);
        refused("would of a lost row", 0, 3, what -> x.would(1, what));
    }

    @Sentence(promise = 14,
        says = "0: cells that come back as they were; 1: cells that come back wrong; 2: cells that are unknown")
    static void whatMendingBrings() {
        EchoMargins x = withAnOldEcho();
        x.lose(1);
        due("one is wrong", x.would(1, 0) * 100 + x.would(1, 1) * 10 + x.would(1, 2), 710);
        x.lose(2);
        due("and four are unknown", x.would(1, 0) * 100 + x.would(1, 1) * 10 + x.would(1, 2), 314);
        x.lose(0);
        due("all are unknown", x.would(1, 0) * 100 + x.would(1, 1) * 10 + x.would(1, 2), 8);
        due("nothing is mended", x.count(10), 0);
        EchoMargins y = new EchoMargins();
        y.lose(4);
        due("all come back", y.would(4, 0) * 100 + y.would(4, 1) * 10 + y.would(4, 2), 800);
        y.days(20);
        due("all come back", y.would(4, 0), 8);
        y.days(1);
        due("none", y.would(4, 2), 8);
    }

    @Sentence(promise = 14, says = "3: the greatest age of an echo that is used")
    static void theGreatestAge() {
        EchoMargins x = new EchoMargins();
        x.lose(0);
        due("of today", x.would(0, 3), 0);
        x.undo();
        x.days(5);
        x.write(0, 0, 1);
        x.days(3);
        x.lose(0);
        due("the older one", x.would(0, 3), 8);
        x.set(1, 8);
        due("as old as it may be", x.would(0, 3), 8);
        x.set(1, 7);
        due("faded ones are not used", x.would(0, 3), 3);
        x.days(4);
        due("the one that is left", x.would(0, 3), 7);
        EchoMargins last = new EchoMargins();
        last.days(1);
        for (int cell = 0; cell < 7; cell++) {
            last.write(2, cell, 5);
        }
        last.lose(2);
        due("the last cell alone is older", last.would(2, 3), 1);
        EchoMargins wrong = withAnOldEcho();
        wrong.days(2);
        for (int cell = 1; cell < 8; cell++) {
            wrong.write(1, cell, 5);
        }
        wrong.lose(1);
        due("one that brings a wrong value is used, too", wrong.would(1, 3), 2);
    }

    @Sentence(promise = 14, says = "NOT_POSSIBLE if the row lives")
    static void wouldOfARowThatLives() {
        EchoMargins x = begun(9);
        for (int row = 0; row < 9; row++) {
            for (int what = 0; what <= 3; what++) {
                due("lives", x.would(row, what), NOT_POSSIBLE);
            }
        }
        x.lose(8);
        due("lost", x.would(8, 0), 8);
        x.mend(8);
        due("mended", x.would(8, 0), NOT_POSSIBLE);
    }

    @Sentence(promise = 14, says = "NOT_FOUND for 3 if none is used.")
    static void noneIsUsed() {
        EchoMargins x = begun(3);
        x.lose(0);
        x.days(21);
        due("all are faded", x.would(0, 3), NOT_FOUND);
        x.undo();
        due("none is faded", x.would(0, 3), 0);
        x.lose(1);
        due("one neighbour lives", x.would(0, 3), 0);
        x.lose(2);
        due("no neighbour lives", x.would(0, 3), NOT_FOUND);
        due("the others are numbers", x.would(0, 0) * 100 + x.would(0, 1) * 10 + x.would(0, 2), 8);
    }

    // ---- Promise 15

    private static void dueOrder(EchoMargins x, int... rows) {
        for (int rank = 0; rank < rows.length; rank++) {
            due("order " + rank, x.order(rank), rows[rank]);
        }
        due("no more", x.order(rows.length), NOT_FOUND);
    }

    /** The rows beside one that is mended are laid anew, and crowd out in small margins what other rows need. */
    @Sentence(promise = 15, says = "by which the most cells come back as they were")
    static void theMostCells() {
        EchoMargins three = begun(9);
        three.set(0, 4);
        three.lay(6);
        three.lose(0);
        three.lose(3);
        three.lose(6);
        dueOrder(three, 6, 3, 0);
        due("together", three.comes(), 12);
        EchoMargins four = begun(9);
        four.set(0, 2);
        four.lose(3);
        four.lose(6);
        four.lose(0);
        four.lose(8);
        dueOrder(four, 6, 3, 0, 8);
        due("together", four.comes(), 6);
        EchoMargins two = begun(9);
        two.set(0, 4);
        two.lay(0);
        two.lay(3);
        two.lay(2);
        two.lose(0);
        two.lose(3);
        dueOrder(two, 3, 0);
        due("8 of the row 3, and 4 of the row 0 then", two.comes(), 12);
        EchoMargins neighbours = begun(9);
        neighbours.set(0, 4);
        neighbours.lose(1);
        neighbours.lose(7);
        neighbours.lose(6);
        neighbours.lose(2);
        dueOrder(neighbours, 2, 6, 7, 1);
        due("together", neighbours.comes(), 8);
    }

    @Sentence(promise = 15,
        says = "of several the one that comes first (by the number of the first row, then by the second one, and so on)")
    static void theFirstOfSeveralOrders() {
        EchoMargins x = begun(9);
        for (int row : new int[] {7, 1, 5, 3}) {
            x.lose(row);
        }
        dueOrder(x, 1, 3, 5, 7);
        EchoMargins swapped = new EchoMargins();
        swapped.swap(0, 4);
        swapped.lose(4);
        swapped.lose(0);
        dueOrder(swapped, 0, 4);
        EchoMargins none = begun(3);
        none.lose(2);
        none.lose(0);
        none.lose(1);
        dueOrder(none, 0, 1, 2);
        due("none comes back", none.comes(), 0);
        EchoMargins partly = begun(9);
        partly.set(0, 3);
        partly.swap(2, 6);
        for (int row : new int[] {6, 1, 5, 8}) {
            partly.lose(row);
        }
        dueOrder(partly, 1, 8, 5, 6);
        due("together", partly.comes(), 9);
    }

    @Sentence(promise = 15, says = "Finds the order of mending all lost rows, one behind the other")
    static void oneBehindTheOther() {
        EchoMargins x = begun(9);
        x.set(0, 4);
        x.lay(0);
        x.lay(3);
        x.lose(3);
        x.lose(0);
        due("each of both alone", x.would(0, 0) * 10 + x.would(3, 0), 88);
        dueOrder(x, 0, 3);
        due("either one costs the other four", x.comes(), 12);
        x.mend(0);
        due("as it is done", x.mend(3), 4);
        EchoMargins all = begun(3);
        for (int row = 0; row < 3; row++) {
            all.lose(row);
        }
        dueOrder(all, 0, 1, 2);
        all.mend(1);
        dueOrder(all, 0, 2);
    }

    @Sentence(promise = 15, says = "- `rank`: 0 for the row that is mended first, and so on")
    static void rankOfOrder() {
        EchoMargins x = new EchoMargins();
        x.lose(3);
        dueOrder(x, 3);
        x.lose(1);
        dueOrder(x, 1, 3);
        due("nothing is mended", x.count(2), 31 - 8 - 2);
    }

    @Sentence(promise = 15, says = "INVALID_ARGUMENT if rank is below 0")
    static void rankBelow0() {
        for (int lost = 0; lost <= 9; lost++) {
            EchoMargins x = withLost(9, lost);
            due("rank -1", x.order(-1), INVALID);
            due("the least rank", x.order(Integer.MIN_VALUE), INVALID);
        }
    }

    @Sentence(promise = 15, says = "LIMIT_REACHED if more than 4 rows are lost")
    static void moreThan4AreLost() {
        for (int lost = 0; lost <= 9; lost++) {
            EchoMargins x = withLost(9, lost);
            due("order with " + lost, x.order(0), lost == 0 ? NOT_FOUND : lost > 4 ? LIMIT : 0);
            due("order with " + lost, x.order(4), lost > 4 ? LIMIT : NOT_FOUND);
        }
        EchoMargins x = withLost(5, 5);
        due("all are lost", x.order(0), LIMIT);
        x.mend(2);
        dueOrder(x, 0, 1, 3, 4);
    }

    @Sentence(promise = 15, says = "NOT_FOUND if not so many are lost.")
    static void notSoManyAreLost() {
        for (int lost = 0; lost <= 4; lost++) {
            EchoMargins x = withLost(9, lost);
            due("the last one", lost == 0 ? 0 : Math.min(x.order(lost - 1), 0), 0);
            due("one more", x.order(lost), NOT_FOUND);
            due("the greatest rank", x.order(Integer.MAX_VALUE), NOT_FOUND);
        }
        EchoMargins once = withLost(9, 3);
        dueOrder(once, 0, 1, 2);
        once.mend(1);
        dueOrder(once, 0, 2);
        once.mend(0);
        once.mend(2);
        due("none is lost any more", once.order(0), NOT_FOUND);
    }

    // ---- Promise 16

    @Sentence(promise = 16, says = "Tells how many cells come back as they were by that order, together.")
    static void cellsThatComeBack() {
        due("none is lost", new EchoMargins().comes(), 0);
        due("one is lost", withLost(9, 1).comes(), 8);
        due("two neighbours are lost", withLost(9, 2).comes(), 8);
        due("four neighbours are lost", withLost(9, 4).comes(), 8);
        due("all of three are lost", withLost(3, 3).comes(), 0);
        EchoMargins x = begun(9);
        x.lose(8);
        x.lose(0);
        x.lose(4);
        x.lose(2);
        due("two pairs, one round the ring", x.comes(), 4 + 4 + 8 + 8);
        x.days(21);
        due("all are faded", x.comes(), 0);
        EchoMargins old = withAnOldEcho();
        old.lose(1);
        due("wrong ones are not counted", old.comes(), 7);
    }

    @Sentence(promise = 16, says = "LIMIT_REACHED if more than 4 rows are lost.")
    static void comesOfMoreThan4() {
        for (int lost = 0; lost <= 9; lost++) {
            due("comes with " + lost, withLost(9, lost).comes(), lost > 4 ? LIMIT : lost == 0 ? 0 : 8);
        }
        EchoMargins x = withLost(5, 5);
        due("all are lost", x.comes(), LIMIT);
        x.mend(0);
        due("one is mended, with nothing", x.comes(), 0);
    }

    // ---- Promise 17

    @Sentence(promise = 17,
        says = "Tells in how many days the first row that is safe now would be so no more, if nothing else is done.")
    static void daysUntilTheFirstIsNotSafe() {
        for (int fades : new int[] {1, 2, 20, 99}) {
            EchoMargins x = new EchoMargins();
            x.set(1, fades);
            due("echoes of today", x.safeFor(), fades + 1);
            x.days(fades);
            due("as old as they may be", x.safeFor(), 1);
            due("safe now", x.count(3), 31);
            x.days(1);
            due("not safe then", x.count(3), 0);
            due("none is safe", x.safeFor(), NOT_FOUND);
        }
        EchoMargins x = new EchoMargins();
        x.days(5);
        x.lay(0);
        x.lay(1);
        x.lay(2);
        x.lay(3);
        due("the last row is the first", x.safeFor(), 16);
        x.lay(4);
        due("all are as safe", x.safeFor(), 21);
        x.days(2);
        for (int cell = 0; cell < 7; cell++) {
            x.write(4, cell, 1);
        }
        due("the last cell alone is as old", x.safeFor(), 19);
    }

    @Sentence(promise = 17, says = "the first row that is safe now")
    static void rowsThatAreNotSafeAreNotAsked() {
        EchoMargins x = new EchoMargins();
        x.days(5);
        x.lay(2);
        due("all are safe", x.safeFor(), 16);
        x.lose(0);
        due("2 and 3 are safe", x.count(3), 4 + 8);
        due("the row 3", x.safeFor(), 16);
        x.lose(4);
        due("2 alone is safe", x.count(3), 4);
        due("the row 2", x.safeFor(), 21);
        EchoMargins old = withAnOldEcho();
        old.days(4);
        for (int row : new int[] {0, 2, 3, 4}) {
            old.lay(row);
        }
        due("the row 1 is not safe", old.count(3), 29);
        due("its older echoes are not asked", old.safeFor(), 21);
    }

    @Sentence(promise = 17, says = "the first row that is safe now would be so no more")
    static void unknownCellsAreNotAsked() {
        EchoMargins x = new EchoMargins();
        x.set(0, 16);
        x.swap(0, 3);
        x.lose(1);
        x.mend(1);
        x.swap(0, 3);
        x.days(5);
        for (int row = 0; row < 5; row++) {
            x.lay(row);
        }
        due("unknown", x.cell(1, 0, 0), NOT_FOUND);
        due("with an echo of old", x.cell(1, 0, 3), 5);
        due("all are safe", x.count(3), 31);
        due("by the cells that are known", x.safeFor(), 21);
    }

    @Sentence(promise = 17, says = "NOT_FOUND if no row is safe that has a cell that is known.")
    static void noRowIsSafe() {
        EchoMargins x = begun(3);
        x.lose(0);
        due("no row is safe", x.count(3), 0);
        due("no row is safe", x.safeFor(), NOT_FOUND);
        x.lose(1);
        x.lose(2);
        due("no row lives", x.safeFor(), NOT_FOUND);
        x.mend(0);
        due("a safe row of unknown cells", x.count(3), 1);
        due("a safe row of unknown cells", x.safeFor(), NOT_FOUND);
        x.write(0, 0, 5);
        due("a cell is known, and has no echo", x.safeFor(), NOT_FOUND);
        x.mend(2);
        due("one cell is known, and got an echo as the row 2 was mended", x.safeFor(), 21);
        x.days(20);
        due("as old as it may be", x.safeFor(), 1);
        x.days(1);
        due("faded", x.safeFor(), NOT_FOUND);
    }

    // ---- Promise 18

    @Sentence(promise = 18, says = "Returns the mean age of all echoes that are not faded, as a float")
    static void meanOfThoseNotFaded() {
        EchoMargins x = new EchoMargins();
        due("of today", asFloat(x.mean()), 0f);
        x.days(20);
        due("as old as they may be", asFloat(x.mean()), 20f);
        x.write(0, 0, 1);
        due("one of 40 is new", asFloat(x.mean()), 780f / 40f);
        x.days(1);
        due("one alone is not faded", asFloat(x.mean()), 1f);
        x.set(1, 21);
        due("none is faded", asFloat(x.mean()), (39f * 21f + 1f) / 40f);
        EchoMargins small = begun(9);
        small.set(0, 16);
        small.days(1);
        for (int row = 0; row < 9; row++) {
            small.lay(row);
        }
        small.write(8, 7, 0);
        due("laid today", asFloat(small.mean()), 0f);
        small.undo();
        small.undo();
        due("eight of 72 are a day old", asFloat(small.mean()), 8f / 72f);
    }

    @Sentence(promise = 18, says = "their ages together, as a float, divided by how many there are, as a float")
    static void floatsOfMeans() {
        for (int one = 1; one <= 40; one++) {
            EchoMargins x = new EchoMargins();
            x.set(1, 99);
            x.days(one);
            for (int cell = 0; cell < one % 8; cell++) {
                x.write(one % 5, cell, 1);
            }
            x.days(40);
            int fresh = one % 8;
            float ages = (float) (fresh * 40 + (40 - fresh) * (one + 40));
            due("mean " + one, asFloat(x.mean()), ages / 40f);
        }
        EchoMargins thirds = begun(3);
        thirds.set(0, 1);
        thirds.days(1);
        thirds.lay(1);
        due("a third", asFloat(thirds.mean()), 1f / 3f);
        due("bits of a third", thirds.mean(), 0x3EAAAAAB);
    }

    @Sentence(promise = 18, says = "Returns the bits of the float; NOT_FOUND if there are none.")
    static void noMean() {
        EchoMargins x = begun(3);
        x.days(20);
        due("as old as they may be", x.mean(), Float.floatToIntBits(20f));
        x.days(1);
        due("all are faded", x.mean(), NOT_FOUND);
        x.lay(0);
        due("eight are not", x.mean(), 0);
        x.lose(1);
        x.lose(2);
        due("two rows are lost", x.count(4), x.row(0, 4));
        x.lose(0);
        due("no row lives", x.mean(), NOT_FOUND);
        x.mend(0);
        due("no echo is there", x.count(4), 0);
        due("no echo is there", x.mean(), NOT_FOUND);
    }

    // ---- Promise 19

    @Sentence(promise = 19, says = "row() of 7 of all rows that live, together, as a float, divided by all their cells, as a float")
    static void sharesOfCells() {
        for (int rows = 3; rows <= 9; rows++) {
            EchoMargins x = begun(rows);
            due("all", x.share(), 0x3F800000);
            x.days(21);
            due("none", x.share(), 0);
            x.write(rows - 1, 7, 1);
            due("one", asFloat(x.share()), 1f / (8f * rows));
            x.lay(0);
            due("nine", asFloat(x.share()), 9f / (8f * rows));
            x.lose(rows - 2);
            due("of the rows that live", asFloat(x.share()), (rows == 3 ? 5f : 9f) / (8f * rows - 8f));
        }
        EchoMargins unknown = withUnknownCells();
        due("unknown cells are cells, too", asFloat(unknown.share()), (4f + 8f + 8f + 4f) / 32f);
    }

    @Sentence(promise = 19, says = "Returns the bits of the float; NOT_FOUND if no row lives.")
    static void noShare() {
        EchoMargins x = begun(3);
        x.lose(0);
        x.lose(2);
        due("one row lives, and nothing comes back", x.share(), 0);
        x.lose(1);
        due("no row lives", x.share(), NOT_FOUND);
        x.mend(2);
        due("one lives again", x.share(), 0);
    }

    // ---- Promise 20

    @Sentence(promise = 20, says = "INVALID_ARGUMENT if what is out of range.")
    static void whatOfCount() {
        EchoMargins x = new EchoMargins();
        refused("count", 0, 21, x::count);
        for (int what = 16; what <= 19; what++) {
            due("count " + what, x.count(what), INVALID);
        }
        for (int what = 0; what <= 21; what++) {
            if (what < 16 || what > 19) {
                due("count " + what, Math.min(x.count(what), 0), 0);
            }
        }
    }

    @Sentence(promise = 20, says = "0: rows; 1: the day of now")
    static void rowsAndDay() {
        EchoMargins x = new EchoMargins();
        due("rows at first", x.count(0), 5);
        due("the day at first", x.count(1), 0);
        for (int rows = 3; rows <= 9; rows++) {
            x.begin(rows);
            x.lose(0);
            due("rows, lost ones too", x.count(0), rows);
        }
        for (int day = 99; day <= 9999; day += 99) {
            x.days(99);
            due("the day", x.count(1), day);
        }
    }

    @Sentence(promise = 20, says = "2: rows that live, as a set")
    static void rowsThatLive() {
        EchoMargins x = begun(9);
        int living = 511;
        due("all", x.count(2), living);
        for (int row = 8; row >= 0; row--) {
            x.lose(row);
            living -= 1 << row;
            due("without " + row, x.count(2), living);
        }
        x.mend(4);
        due("one", x.count(2), 16);
    }

    @Sentence(promise = 20, says = "3: rows that live and are safe, as a set: all their cells would come back as they are, "
        + "if this one alone was lost and mended now (unknown ones are not asked)")
    static void rowsThatAreSafe() {
        EchoMargins x = new EchoMargins();
        x.days(20);
        due("as old as they may be", x.count(3), 31);
        x.write(2, 7, 1);
        x.days(1);
        due("all but one are faded", x.count(3), 0);
        x.lay(2);
        due("one is safe", x.count(3), 4);
        x.lose(4);
        due("lost ones are not", x.count(3), 4);
        x.lose(2);
        due("lost ones are not", x.count(3), 0);
        due("one echo is of another value", withAnOldEcho().count(3), 29);
        EchoMargins unknown = withUnknownCells();
        due("unknown ones are not asked", unknown.count(3), 2 + 4 + 8);
        unknown.write(1, 0, 0);
        due("a known one without an echo", unknown.count(3), 4 + 8);
        EchoMargins all = withLost(3, 3);
        all.mend(1);
        due("all are unknown", all.count(3), 2);
    }

    @Sentence(promise = 20, says = "4: echoes in all margins; 5: faded ones of these")
    static void echoesInAllMargins() {
        EchoMargins x = begun(9);
        due("all", x.count(4), 72);
        x.days(20);
        due("as old as they may be", x.count(5), 0);
        x.write(8, 7, 5);
        x.days(1);
        due("all but one are faded", x.count(5), 71);
        due("all", x.count(4), 72);
        x.lose(8);
        due("without one margin", x.count(4), 64);
        due("without one margin", x.count(5), 63);
        x.lose(0);
        due("without two margins", x.count(4), 56);
        due("without two margins", x.count(5), 56);
        for (int row = 1; row < 8; row++) {
            x.lose(row);
        }
        due("no margin", x.count(4), 0);
        due("no margin", x.count(5), 0);
    }

    @Sentence(promise = 20, says = "6: cells that are unknown in rows that live; 7: wrong ones")
    static void unknownAndWrongCells() {
        EchoMargins x = begun(9);
        x.lose(8);
        x.lose(0);
        x.lose(4);
        due("those of lost rows are not counted", x.count(6), 0);
        x.days(21);
        for (int row : new int[] {4, 0, 8}) {
            int before = x.count(6);
            x.mend(row);
            due("all of one more row", x.count(6), before + 8);
        }
        x.write(0, 7, 0);
        due("one is written", x.count(6), 23);
        x.lose(8);
        due("those of the rows 0 and 4", x.count(6), 15);
        x.lose(0);
        due("those of the row 4", x.count(6), 8);
        EchoMargins wrong = withAnOldEcho();
        wrong.lose(1);
        due("of a lost row", wrong.count(7), 0);
        wrong.mend(1);
        due("one", wrong.count(7), 1);
        wrong.write(1, 0, 0);
        due("written", wrong.count(7), 0);
        wrong.undo();
        wrong.lose(1);
        due("lost", wrong.count(7), 0);
        due("came wrong so far", wrong.count(12), 1);
    }

    @Sentence(promise = 20, says = "7: wrong ones")
    static void wrongCellsOfTheFirstAndTheLastRow() {
        EchoMargins x = new EchoMargins();
        x.set(0, 16);
        for (int row = 0; row <= 4; row += 4) {
            x.swap(row, 2);
            x.write(row, 0, 4);
            x.write(row, 7, 4);
            x.swap(row, 2);
            x.lose(row);
            x.mend(row);
            due("the first and the last cell", x.row(row, 6), 2);
        }
        due("of both rows", x.count(7), 4);
        x.write(0, 0, 1);
        due("one is written", x.count(7), 3);
        x.lose(4);
        due("the last row is lost", x.count(7), 1);
        x.lose(0);
        due("both are lost", x.count(7), 0);
    }

    @Sentence(promise = 20, says = "8: writings so far; 9: rows lost so far; 10: rows mended so far")
    static void countedChanges() {
        EchoMargins x = new EchoMargins();
        x.lose(0);
        x.write(0, 0, 5);
        x.write(1, 0, 0);
        x.write(1, 0, 0);
        due("writings, without the refused one", x.count(8), 2);
        x.lose(0);
        x.lose(1);
        due("lost, without the refused one", x.count(9), 2);
        x.mend(2);
        x.mend(0);
        x.mend(0);
        due("mended, without the refused ones", x.count(10), 1);
        x.undo();
        due("undone", x.count(10), 0);
        type(x, "w1,1,1;l2;m0;");
        x.play();
        due("a text that has a fault does nothing", x.count(8) * 100 + x.count(9) * 10 + x.count(10), 220);
        x.clearText();
        type(x, "w2,1,1;l2;m0;");
        x.play();
        due("orders are counted, too", x.count(8) * 100 + x.count(9) * 10 + x.count(10), 331);
    }

    @Sentence(promise = 20,
        says = "11: cells that came back as they were so far; 12: cells that came back wrong so far; 13: echoes laid so far")
    static void countedCells() {
        EchoMargins x = withAnOldEcho();
        due("laid", x.count(13), 2);
        x.lose(1);
        due("nothing came back yet", x.count(11) + x.count(12), 0);
        x.mend(1);
        due("came back", x.count(11), 7);
        due("came wrong", x.count(12), 1);
        due("laid: two rows beside it, and itself", x.count(13), 2 + 24);
        x.write(1, 0, 3);
        due("still came wrong", x.count(12), 1);
        x.lose(1);
        x.mend(1);
        due("came back", x.count(11), 15);
        due("came wrong", x.count(12), 1);
        x.undo();
        x.undo();
        due("undone", x.count(11), 7);
        due("undone", x.count(13), 2 + 24 + 1);
    }

    @Sentence(promise = 20, says = "14: states in the history; 15: the length of the text; 20 and 21: the settings 0 and 1")
    static void countedStates() {
        EchoMargins x = new EchoMargins();
        for (int i = 0; i < 6; i++) {
            due("states", x.count(14), Math.min(i, 4));
            due("length", x.count(15), i);
            x.lay(0);
            x.type('!');
        }
        x.set(0, 16);
        x.set(1, 99);
        due("setting 0", x.count(20), 16);
        due("setting 1", x.count(21), 99);
        x.clearText();
        due("length", x.count(15), 0);
        for (int i = 3; i >= 0; i--) {
            x.undo();
            due("states", x.count(14), i);
        }
        due("setting 0", x.count(20), 8);
        due("setting 1", x.count(21), 20);
    }

    public static void main(String[] args) throws Exception {
        runAll(BoundaryLooksTest.class);
    }
}
