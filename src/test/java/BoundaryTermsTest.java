import java.util.function.Supplier;
import java.util.function.ToIntFunction;

/** The boundary cases that the document names under "Terms" (and before), a test for each sentence. */
public final class BoundaryTermsTest extends Boundary {

    // ---- What it is

    @Sentence(promise = 1, in = "What it is",
        says = "An object is used for at most 512 calls after it has been made")
    static void the512thCall() {
        EchoMargins x = new EchoMargins();
        for (int i = 1; i <= 500; i++) {
            due("write " + i, x.write(i % 5, i % 8, i), 1);
        }
        due("call 501", x.count(8), 500);
        due("call 502", x.count(13), 500);
        due("call 503", x.count(14), 4);
        due("call 504", x.lose(0), 8);
        due("call 505", x.mend(0), 8);
        due("call 506", x.days(1), 1);
        due("call 507", x.undo(), 3);
        due("call 508", x.undo(), 2);
        due("call 509", x.undo(), 1);
        due("call 510", x.undo(), 0);
        due("call 511", x.undo(), NOT_POSSIBLE);
        due("call 512", x.count(8), 499);
    }

    // ---- Rows, places

    @Sentence(promise = 20, in = "Terms", says = "Days are counted from 0; there is a day of now, 0 at first.")
    static void theFirstDay() {
        EchoMargins x = new EchoMargins();
        due("count(1)", x.count(1), 0);
        due("age on the first day", x.margin(0, 0, 3), 0);
        due("days(1)", x.days(1), 1);
        due("count(1)", x.count(1), 1);
        due("age on the second day", x.margin(0, 0, 3), 1);
    }

    @Sentence(promise = 20, in = "Terms", says = "bit k is for the row k")
    static void bitsOfTheFirstAndTheLastRow() {
        for (int rows = 3; rows <= 9; rows++) {
            EchoMargins x = begun(rows);
            int all = (1 << rows) - 1;
            due("all live", x.count(2), all);
            due("all are safe", x.count(3), all);
            x.write(0, 0, 1);
            x.lose(rows - 1);
            due("the last one is lost", x.count(2), all - (1 << rows - 1));
            due("its neighbours are not safe", x.count(3), all - (1 << rows - 1) - (1 << rows - 2) - 1);
            x.undo();
            x.lose(0);
            due("the first one is lost", x.count(2), all - 1);
            due("its neighbours are not safe", x.count(3), all - 1 - 2 - (1 << rows - 1));
        }
    }

    @Sentence(promise = 2, in = "Terms", says = "There are 3 to 9 rows (5 at first), numbered from 0")
    static void howManyRows() {
        due("at first", new EchoMargins().count(0), 5);
        due("2 rows", new EchoMargins().begin(2), INVALID);
        due("10 rows", new EchoMargins().begin(10), INVALID);
        for (int rows = 3; rows <= 9; rows++) {
            EchoMargins x = begun(rows);
            due("count(0)", x.count(0), rows);
            due("the first row", x.row(0, 1), 1);
            due("the last row", x.row(rows - 1, 1), 1);
            due("no row behind it", x.row(rows, 1), INVALID);
            due("no row before the first one", x.row(-1, 1), INVALID);
        }
    }

    @Sentence(promise = 20, in = "Terms", says = "There are 3 to 9 rows")
    static void noTenthRow() {
        EchoMargins x = begun(9);
        x.write(0, 0, 999);
        x.write(8, 7, 998);
        x.lose(0);
        x.mend(0);
        x.days(1);
        dueAllAsTheyWere(x, 72);
        x.set(0, 5);
        due("the first cell", x.cell(0, 0, 0), 999);
        due("echoes", x.count(4), 45);
        EchoMargins swapped = begun(9);
        swapped.set(0, 16);
        swapped.swap(1, 8);
        for (int row = 0; row < 9; row++) {
            swapped.lay(row);
        }
        swapped.days(1);
        dueAllAsTheyWere(swapped, 72 + 32);
    }

    private static void dueAllAsTheyWere(EchoMargins x, int echoes) {
        due("all live", x.count(2), 511);
        due("all are safe", x.count(3), 511);
        due("echoes", x.count(4), echoes);
        due("faded ones", x.count(5), 0);
        due("unknown ones", x.count(6), 0);
        due("wrong ones", x.count(7), 0);
        due("days that all are safe", x.safeFor(), 20);
        due("mean", asFloat(x.mean()), 1f);
        due("share", asFloat(x.share()), 1f);
        due("none is lost", x.comes(), 0);
    }

    @Sentence(promise = 20, in = "Terms", says = "numbered from 0, in a ring")
    static void noRowBeforeTheFirstOne() {
        EchoMargins x = begun(9);
        x.set(0, 1);
        for (int i = 1; i <= 10; i++) {
            x.lay(0);
            due("the last row's margin has lost four more", x.row(8, 9), 4 * i);
        }
        x.days(1);
        due("echoes", x.count(4), 9);
        due("faded ones", x.count(5), 0);
        due("mean", asFloat(x.mean()), 1f);
        x.set(0, 2);
        due("as before", x.row(8, 9), 40);
        x.days(20);
        due("faded ones", x.count(5), 9);
        due("mean", x.mean(), NOT_FOUND);
    }

    @Sentence(promise = 13, in = "Terms",
        says = "in a ring of as many places: at first the row k is at the place k")
    static void asManyPlacesAsRows() {
        for (int rows = 3; rows <= 9; rows++) {
            EchoMargins x = new EchoMargins();
            x.swap(0, 4);
            x.begin(rows);
            for (int k = 0; k < rows; k++) {
                due("at " + k, x.at(k), k);
                due("place of " + k, x.row(k, 0), k);
            }
            due("no more places", x.at(rows), INVALID);
        }
    }

    @Sentence(promise = 12, in = "Terms",
        says = "The upper neighbour of a row is the row at the place before (of the place 0 the last one)")
    static void upperNeighbourOfThePlace0() {
        for (int rows = 3; rows <= 9; rows++) {
            EchoMargins x = begun(rows);
            due("of the row 0", x.row(0, 2), rows - 1);
            for (int k = 1; k < rows; k++) {
                due("of the row " + k, x.row(k, 2), k - 1);
            }
            x.write(0, 6, 7);
            due("its even cell is in the last margin", x.margin(rows - 1, 7, 2), 7);
            x.swap(0, 1);
            due("of the row 1 at the place 0", x.row(1, 2), rows - 1);
            due("of the row 0 at the place 1", x.row(0, 2), 1);
        }
    }

    @Sentence(promise = 12, in = "Terms",
        says = "the lower one that at the next place (of the last one the place 0)")
    static void lowerNeighbourOfTheLastPlace() {
        for (int rows = 3; rows <= 9; rows++) {
            EchoMargins x = begun(rows);
            due("of the last row", x.row(rows - 1, 3), 0);
            for (int k = 0; k < rows - 1; k++) {
                due("of the row " + k, x.row(k, 3), k + 1);
            }
            x.write(rows - 1, 7, 7);
            due("its odd cell is in the margin of the row 0", x.margin(0, 7, 2), 7);
            x.swap(rows - 1, 1);
            due("of the row 1 at the last place", x.row(1, 3), 0);
            due("of the last row at the place 1", x.row(rows - 1, 3), rows == 3 ? 1 : 2);
        }
    }

    @Sentence(promise = 10, in = "Terms", says = "A row that lives has 8 cells, 0 to 7")
    static void eightCells() {
        EchoMargins x = new EchoMargins();
        for (int row = 0; row < 5; row++) {
            due("the first cell", x.cell(row, 0, 0), 0);
            due("the last cell", x.cell(row, 7, 0), 0);
            due("no cell behind it", x.cell(row, 8, 0), INVALID);
            due("no cell before the first one", x.cell(row, -1, 0), INVALID);
            for (int cell = 0; cell < 8; cell++) {
                x.write(row, cell, 100 * row + cell + 1);
            }
        }
        for (int row = 0; row < 5; row++) {
            for (int cell = 0; cell < 8; cell++) {
                due("each has its own value", x.cell(row, cell, 0), 100 * row + cell + 1);
                due("and is not wrong", x.cell(row, cell, 1), 0);
            }
        }
        EchoMargins back = begun(9);
        for (int owner = 71; owner >= 0; owner--) {
            back.write(owner / 8, owner % 8, owner + 1);
        }
        for (int owner = 0; owner < 72; owner++) {
            due("written from the last one on", back.cell(owner / 8, owner % 8, 0), owner + 1);
            due("and not wrong", back.cell(owner / 8, owner % 8, 1), 0);
        }
    }

    @Sentence(promise = 10, in = "Terms", says = "each with a value (0 to 999; 0 at first), or unknown")
    static void valuesOfCells() {
        EchoMargins x = new EchoMargins();
        due("at first", x.cell(2, 3, 0), 0);
        for (int value : new int[] {999, 0, 1, 998, 511, 512, 513, 255, 256}) {
            for (int cell = 4; cell <= 5; cell++) {
                x.write(2, cell, value);
                due("the value", x.cell(2, cell, 0), value);
                due("the value of the echo", x.cell(2, cell, 2), value);
                x.lose(2);
                x.mend(2);
                due("mended", x.cell(2, cell, 0), value);
                due("and not wrong", x.cell(2, cell, 1), 0);
            }
        }
        x.lose(1);
        x.lose(2);
        x.mend(2);
        due("unknown", x.cell(2, 4, 0), NOT_FOUND);
        due("known", x.cell(2, 5, 0), 256);
    }

    @Sentence(promise = 12, in = "Terms", says = "a margin that bears up to setting 0 echoes in a row")
    static void marginsBearUpToSetting0() {
        for (int bears = 1; bears <= 16; bears++) {
            EchoMargins x = begun(9);
            x.set(0, bears);
            due("at first", x.row(0, 4), Math.min(8, bears));
            for (int row = 2; row <= 5; row++) {
                x.swap(row - 1, row);
                x.lay(row);
                due("with the lower neighbour " + row, x.row(0, 4), Math.min(4 * row + 4, bears));
            }
            due("the last one that is there", x.margin(0, bears - 1, 1), 6);
            due("none behind it", x.margin(0, bears, 1), NOT_FOUND);
        }
    }

    @Sentence(promise = 11, in = "Terms", says = "A lost row has neither.")
    static void lostRowsHaveNothing() {
        EchoMargins x = new EchoMargins();
        x.lose(2);
        due("no echoes", x.row(2, 4), 0);
        due("no first echo", x.margin(2, 0, 0), NOT_FOUND);
        due("echoes in all margins", x.count(4), 32);
        for (int cell = 0; cell < 8; cell++) {
            due("no value", x.cell(2, cell, 0), NOT_FOUND);
            due("not wrong", x.cell(2, cell, 1), 0);
        }
        x.write(1, 1, 5);
        x.write(3, 0, 5);
        due("nothing is laid in its margin", x.row(2, 4), 0);
        due("nothing is found there", x.cell(1, 1, 2), NOT_FOUND);
        due("nothing is found there", x.cell(3, 0, 2), NOT_FOUND);
    }

    // ---- Echoes

    @Sentence(promise = 11, in = "Echoes", says = "An echo is of a cell of a row, with a value and the day on which it was laid.")
    static void theDayOfAnEcho() {
        EchoMargins x = begun(9);
        for (int day = 99; day <= 9999; day += 99) {
            x.days(99);
        }
        x.write(8, 7, 999);
        due("row", x.margin(0, 7, 0), 8);
        due("cell", x.margin(0, 7, 1), 7);
        due("value", x.margin(0, 7, 2), 999);
        due("laid on the last day", x.margin(0, 7, 3), 0);
        due("laid on the day 0", x.margin(0, 6, 3), 9999);
        x.undo();
        x.undo();
        x.write(8, 6, 1);
        x.days(99);
        due("laid on the day 9900", x.margin(7, 7, 3), 99);
        due("not faded by its age", x.margin(7, 7, 4), 1);
        x.set(1, 99);
        due("not faded now", x.margin(7, 7, 4), 0);
    }

    @Sentence(promise = 3, in = "Echoes",
        says = "The echo of an even cell (0, 2, 4, 6) is laid in the margin of the upper neighbour of the row, "
            + "that of an odd one in the margin of the lower neighbour, if that one lives.")
    static void whereEchoesAreLaid() {
        for (int row = 0; row < 5; row++) {
            int upper = (row + 4) % 5;
            int lower = (row + 1) % 5;
            for (int cell = 0; cell < 8; cell++) {
                EchoMargins x = new EchoMargins();
                int holder = cell % 2 == 0 ? upper : lower;
                int other = cell % 2 == 0 ? lower : upper;
                due("laid", x.write(row, cell, 50 + cell), 1);
                due("at the end of the one margin", x.margin(holder, 7, 2), 50 + cell);
                due("not in the other one", x.margin(other, 7, 2), 0);
                x.lose(other);
                due("the other one does not matter", x.write(row, cell, 60 + cell), 1);
                x.lose(holder);
                due("lost", x.write(row, cell, 70 + cell), 0);
                due("nowhere", x.count(13), 2);
                due("not in the margin that is gone", x.row(holder, 4), 0);
            }
        }
    }

    @Sentence(promise = 3, in = "Echoes", says = "To lay an echo is to put it at the end of the margin")
    static void laidAtTheEnd() {
        EchoMargins x = new EchoMargins();
        x.set(0, 16);
        dueMargin(x, 0, "10 12 14 16 41 43 45 47");
        x.swap(1, 3);
        x.write(3, 6, 1);
        dueMargin(x, 0, "10 12 14 16 41 43 45 47 36");
        x.write(3, 0, 1);
        dueMargin(x, 0, "10 12 14 16 41 43 45 47 36 30");
    }

    @Sentence(promise = 12, in = "Echoes", says = "an echo of the same cell of the same row that is there goes")
    static void theSameCellGoes() {
        EchoMargins x = new EchoMargins();
        x.write(1, 0, 1);
        dueMargin(x, 0, "12 14 16 41 43 45 47 10");
        x.write(4, 7, 2);
        dueMargin(x, 0, "12 14 16 41 43 45 10 47");
        x.write(4, 7, 3);
        dueMargin(x, 0, "12 14 16 41 43 45 10 47");
        due("the new one", x.margin(0, 7, 2), 3);
        due("nothing else went", x.row(0, 9), 0);
        x.days(21);
        x.write(1, 2, 4);
        dueMargin(x, 0, "14 16 41 43 45 10 47 12");
        due("a faded one of the cell goes, too", x.row(0, 4), 8);
        EchoMargins y = new EchoMargins();
        y.swap(1, 3);
        y.set(0, 16);
        y.write(3, 0, 1);
        dueMargin(y, 0, "10 12 14 16 41 43 45 47 30");
        due("that of the same cell of another row stays", y.margin(0, 0, 0), 1);
    }

    @Sentence(promise = 12, in = "Echoes", says = "if there are more than setting 0 echoes then, the first ones go")
    static void fullMargins() {
        EchoMargins x = new EchoMargins();
        x.set(0, 9);
        x.swap(1, 3);
        x.write(3, 0, 1);
        dueMargin(x, 0, "10 12 14 16 41 43 45 47 30");
        due("as many as it bears", x.row(0, 9), 0);
        x.write(3, 2, 1);
        dueMargin(x, 0, "12 14 16 41 43 45 47 30 32");
        due("one went", x.row(0, 9), 1);
        x.write(3, 0, 1);
        dueMargin(x, 0, "12 14 16 41 43 45 47 32 30");
        due("the same cell makes room", x.row(0, 9), 1);
        x.set(0, 1);
        x.write(3, 0, 2);
        dueMargin(x, 0, "30");
        x.write(3, 2, 2);
        dueMargin(x, 0, "32");
        due("the only one went", x.row(0, 9), 2);
        x.days(99);
        x.write(3, 4, 2);
        dueMargin(x, 0, "34");
        due("faded ones have taken room", x.row(0, 9), 3);
    }

    @Sentence(promise = 12, in = "Echoes", says = "if there are more than setting 0 echoes then")
    static void theFullestMargin() {
        EchoMargins x = begun(9);
        x.set(0, 16);
        x.swap(1, 2);
        x.lay(2);
        x.swap(2, 3);
        x.lay(3);
        dueMargin(x, 0, "10 12 14 16 81 83 85 87 20 22 24 26 30 32 34 36");
        due("sixteen are not too many", x.row(0, 9), 0);
        x.swap(3, 4);
        x.write(4, 2, 1);
        dueMargin(x, 0, "12 14 16 81 83 85 87 20 22 24 26 30 32 34 36 42");
        due("seventeen are", x.row(0, 9), 1);
    }

    @Sentence(promise = 7, in = "Echoes", says = "No echo is laid of an unknown cell.")
    static void unknownCellsAreNotLaid() {
        EchoMargins x = new EchoMargins();
        x.write(1, 0, 33);
        x.swap(0, 3);
        x.lose(1);
        due("the odd cells", x.mend(1), 4);
        due("those are laid, with those of 3 and 2", x.count(13), 1 + 16 + 4);
        x.swap(0, 3);
        due("the even cells are unknown", x.row(1, 5), 4);
        due("the odd ones are laid alone", x.lay(1), 4);
        due("the old echo is as it was", x.cell(1, 0, 2), 33);
        x.write(1, 2, 5);
        due("known again", x.lay(1), 5);
        EchoMargins y = begun(3);
        y.lose(0);
        y.lose(1);
        y.lose(2);
        y.mend(0);
        y.mend(1);
        due("all are unknown", y.lay(0), 0);
        due("all are unknown", y.row(1, 4), 0);
    }

    @Sentence(promise = 11, in = "Echoes",
        says = "An echo that is older than setting 1 days is faded: it is there, but tells nothing.")
    static void fadedEchoes() {
        for (int fades : new int[] {1, 2, 20, 50, 98, 99}) {
            EchoMargins x = new EchoMargins();
            x.set(1, fades);
            x.days(fades);
            due("as old as that, not faded", x.margin(0, 0, 4), 0);
            due("it tells", x.cell(1, 0, 2), 0);
            due("none is faded", x.count(5), 0);
            due("all are safe", x.count(3), 31);
            x.days(1);
            due("older, faded", x.margin(0, 0, 4), 1);
            due("it tells nothing", x.cell(1, 0, 2), NOT_FOUND);
            due("it is there", x.margin(0, 0, 3), fades + 1);
            due("all are there", x.count(4), 40);
            due("all are faded", x.count(5), 40);
            due("none is safe", x.count(3), 0);
            due("none comes back", x.lose(1), 0);
        }
    }

    @Sentence(promise = 9, in = "Echoes", says = "An echo that is older than setting 1 days is faded")
    static void fadedByTheSettingOfNow() {
        EchoMargins x = new EchoMargins();
        x.days(30);
        due("faded", x.margin(3, 0, 4), 1);
        x.set(1, 29);
        due("faded still", x.margin(3, 0, 4), 1);
        x.set(1, 30);
        due("not faded", x.margin(3, 0, 4), 0);
        due("tells", x.cell(4, 0, 3), 30);
        x.set(1, 29);
        due("faded again", x.margin(3, 0, 4), 1);
    }

    @Sentence(promise = 1, in = "Echoes",
        says = "At first, and when it begins anew, the echoes of all cells are laid, row by row, by cells")
    static void laidAtFirst() {
        EchoMargins x = new EchoMargins();
        dueMargin(x, 0, "10 12 14 16 41 43 45 47");
        dueMargin(x, 1, "01 03 05 07 20 22 24 26");
        dueMargin(x, 2, "11 13 15 17 30 32 34 36");
        dueMargin(x, 3, "21 23 25 27 40 42 44 46");
        dueMargin(x, 4, "00 02 04 06 31 33 35 37");
        x.swap(0, 4);
        x.write(1, 1, 1);
        x.days(3);
        x.begin(3);
        dueMargin(x, 0, "10 12 14 16 21 23 25 27");
        dueMargin(x, 1, "01 03 05 07 20 22 24 26");
        dueMargin(x, 2, "00 02 04 06 11 13 15 17");
        due("on the day of now", x.margin(2, 0, 3), 0);
    }

    @Sentence(promise = 20, in = "Echoes", says = "(these are not counted)")
    static void firstEchoesAreNotCounted() {
        EchoMargins x = new EchoMargins();
        due("at first", x.count(13), 0);
        x.set(0, 3);
        x.lay(0);
        due("laid", x.count(13), 8);
        due("begin(4)", x.begin(4), 12);
        due("anew", x.count(13), 0);
        due("what they crowded out is not counted", x.row(0, 9), 0);
        x.write(0, 0, 1);
        due("one", x.count(13), 1);
    }

    // ---- Changes of rows

    @Sentence(promise = 3, in = "Changes of rows", says = "To write a cell is to change its value, and to lay its echo.")
    static void writtenAnew() {
        EchoMargins x = new EchoMargins();
        x.lose(0);
        x.lose(1);
        x.mend(1);
        due("unknown", x.cell(1, 0, 0), NOT_FOUND);
        due("its neighbour is lost", x.write(1, 0, 0), 0);
        due("known all the same", x.cell(1, 0, 0), 0);
        due("one less", x.row(1, 5), 3);
        x.days(1);
        due("the same value again", x.write(1, 1, 0), 1);
        due("its echo is new", x.cell(1, 1, 3), 0);
    }

    @Sentence(promise = 7, in = "Changes of rows", says = "To lay a row anew is to lay the echoes of its cells, by cells.")
    static void laidByCells() {
        EchoMargins x = new EchoMargins();
        x.set(0, 3);
        x.lay(0);
        dueMargin(x, 4, "02 04 06");
        dueMargin(x, 1, "03 05 07");
        x.set(0, 16);
        x.write(0, 7, 1);
        x.write(0, 3, 1);
        dueMargin(x, 1, "05 07 03");
        x.lay(0);
        dueMargin(x, 1, "01 03 05 07");
        dueMargin(x, 4, "00 02 04 06");
    }

    @Sentence(promise = 4, in = "Changes of rows", says = "To lose a row is to have its cells and its margin gone.")
    static void goneWithItsMargin() {
        EchoMargins x = new EchoMargins();
        due("lose", x.lose(3), 8);
        due("its margin is gone", x.row(3, 4), 0);
        due("echoes of 2 and 4 are gone with it", x.row(2, 7) * 10 + x.row(4, 7), 44);
        dueMargin(x, 2, "11 13 15 17 30 32 34 36");
        dueMargin(x, 4, "00 02 04 06 31 33 35 37");
        due("its place is not", x.row(3, 0), 3);
        x.lose(2);
        x.lose(4);
        due("mended from nothing", x.mend(3), 0);
        due("an empty margin", x.row(3, 4), 0);
    }

    @Sentence(promise = 4, in = "Changes of rows", says = "To lose a row is to have its cells")
    static void noCellsOfOtherRowsAreGone() {
        for (int row = 0; row < 9; row++) {
            EchoMargins x = begun(9);
            for (int other = 0; other < 9; other++) {
                x.write(other, 0, 10 + other);
                x.write(other, 7, 20 + other);
            }
            x.lose(row);
            for (int other = 0; other < 9; other++) {
                due("the first cell of " + other, x.cell(other, 0, 0), other == row ? NOT_FOUND : 10 + other);
                due("the last cell of " + other, x.cell(other, 7, 0), other == row ? NOT_FOUND : 20 + other);
            }
            x.mend(row);
            due("its first cell is back", x.cell(row, 0, 0), 10 + row);
            due("its last cell is back", x.cell(row, 7, 0), 20 + row);
        }
    }

    @Sentence(promise = 5, in = "Changes of rows", says = "To mend a lost row: it lives again")
    static void itLivesAgain() {
        EchoMargins x = begun(3);
        for (int row = 0; row < 3; row++) {
            x.lose(row);
        }
        for (int row = 2; row >= 0; row--) {
            due("lost", x.row(row, 1), 0);
            due("with nothing", x.mend(row), 0);
            due("lives again", x.row(row, 1), 1);
            due("at its place", x.row(row, 0), row);
            due("can be written", x.write(row, 0, 1), row == 0 ? 1 : 0);
        }
        due("all live", x.count(2), 7);
    }

    @Sentence(promise = 5, in = "Changes of rows",
        says = "each of its cells gets the value of its echo in the margin of the upper neighbour (even cells) or the "
            + "lower one (odd cells) of now, if that one lives")
    static void mendedByNeighboursThatLive() {
        EchoMargins upperLost = new EchoMargins();
        upperLost.lose(0);
        upperLost.lose(1);
        due("by the lower one", upperLost.mend(1), 4);
        EchoMargins lowerLost = new EchoMargins();
        lowerLost.lose(2);
        lowerLost.lose(1);
        due("by the upper one", lowerLost.mend(1), 4);
        for (int cell = 0; cell < 8; cell++) {
            due("odd cells", upperLost.cell(1, cell, 0), cell % 2 == 1 ? 0 : NOT_FOUND);
            due("even cells", lowerLost.cell(1, cell, 0), cell % 2 == 0 ? 0 : NOT_FOUND);
        }
        EchoMargins wrapped = new EchoMargins();
        wrapped.lose(4);
        wrapped.lose(0);
        due("the row 0 by the row 1", wrapped.mend(0), 4);
        due("the row 4 by 3 and 0, which lives again", wrapped.mend(4), 4);
        EchoMargins swapped = new EchoMargins();
        swapped.swap(0, 2);
        swapped.lose(1);
        due("the neighbours of now have no echoes of these cells", swapped.mend(1), 0);
    }

    @Sentence(promise = 5, in = "Changes of rows", says = "and has one that is not faded; otherwise it is unknown")
    static void mendedByEchoesThatAreNotFaded() {
        EchoMargins x = new EchoMargins();
        x.set(1, 3);
        x.write(1, 0, 7);
        x.days(1);
        x.write(1, 1, 8);
        x.lose(1);
        x.days(2);
        due("of age 3 and 2", x.would(1, 0), 8);
        x.days(1);
        due("of age 4 and 3", x.mend(1), 1);
        due("faded", x.cell(1, 0, 0), NOT_FOUND);
        due("not faded", x.cell(1, 1, 0), 8);
        due("faded", x.cell(1, 3, 0), NOT_FOUND);
        due("unknown", x.row(1, 5), 7);
        x.lose(1);
        x.days(4);
        due("all are faded", x.mend(1), 0);
        due("unknown", x.row(1, 5), 8);
        due("none is wrong", x.row(1, 6), 0);
    }

    @Sentence(promise = 5, in = "Changes of rows",
        says = "Its margin is empty at first; then the upper neighbour is laid anew, if it lives, then the lower one, "
            + "then the row itself.")
    static void laidAnewAsItIsMended() {
        EchoMargins both = begun(3);
        both.lose(1);
        both.mend(1);
        dueMargin(both, 0, "21 23 25 27 10 12 14 16");
        dueMargin(both, 1, "01 03 05 07 20 22 24 26");
        dueMargin(both, 2, "00 02 04 06 11 13 15 17");
        due("laid with both", both.count(13), 24);
        EchoMargins upper = new EchoMargins();
        upper.lose(2);
        upper.lose(1);
        upper.mend(1);
        dueMargin(upper, 1, "01 03 05 07");
        due("laid with the upper one", upper.count(13), 8 + 4);
        EchoMargins lower = new EchoMargins();
        lower.lose(0);
        lower.lose(1);
        lower.mend(1);
        dueMargin(lower, 1, "20 22 24 26");
        due("laid with the lower one", lower.count(13), 8 + 4);
        EchoMargins none = new EchoMargins();
        none.lose(0);
        none.lose(1);
        none.lose(2);
        none.mend(1);
        dueMargin(none, 1, "");
        due("laid with none", none.count(13), 0);
    }

    @Sentence(promise = 5, in = "Changes of rows",
        says = "Its margin is empty at first; then the upper neighbour is laid anew, if it lives, then the lower one")
    static void laidAnewInAFullMargin() {
        EchoMargins x = new EchoMargins();
        x.set(0, 4);
        x.lay(1);
        x.lose(1);
        due("both neighbours have four", x.mend(1), 8);
        dueMargin(x, 1, "20 22 24 26");
        due("the upper one's went as the lower one was laid", x.row(1, 9), 4);
        due("the upper one is not safe", x.row(0, 7), 4);
        due("the lower one is", x.row(2, 7), 8);
    }

    @Sentence(promise = 5, in = "Changes of rows",
        says = "a cell that is mended with another value than that, or with one while it was unknown, is wrong")
    static void wrongCells() {
        EchoMargins x = new EchoMargins();
        x.swap(0, 3);
        x.write(1, 0, 10);
        x.swap(0, 3);
        x.lose(1);
        due("one has another value", x.mend(1), 7);
        due("wrong", x.cell(1, 0, 1), 1);
        due("the others are not", x.row(1, 6), 1);
        x.swap(0, 3);
        x.lose(1);
        due("the echo of 10 is back, but for the others", x.mend(1), 4);
        due("wrong: it was 0 as it was lost", x.cell(1, 0, 1), 1);
        due("the value", x.cell(1, 0, 0), 10);
        due("unknown, not wrong", x.cell(1, 2, 1), 0);
        x.swap(0, 3);
        x.write(1, 0, 10);
        x.lose(1);
        due("as it was, and the odd ones", x.mend(1), 5);
        due("not wrong", x.cell(1, 0, 1), 0);
        due("wrong, for it was unknown", x.cell(1, 2, 1), 1);
        due("three of these", x.row(1, 6), 3);
    }

    @Sentence(promise = 5, in = "Changes of rows", says = "one that was unknown never comes back as it was")
    static void unknownOnesNeverComeBack() {
        EchoMargins x = new EchoMargins();
        x.set(0, 16);
        x.swap(0, 3);
        x.lose(1);
        x.mend(1);
        due("four are unknown", x.row(1, 5), 4);
        due("lost again with no echoes of them", x.lose(1), 4);
        due("unknown again is not as it was", x.mend(1), 4);
        due("nor wrong", x.row(1, 6), 0);
        x.swap(0, 3);
        due("with echoes again", x.row(1, 7), 4);
        due("lost", x.lose(1), 4);
        due("would", x.would(1, 0) * 100 + x.would(1, 1) * 10 + x.would(1, 2), 440);
        due("mended", x.mend(1), 4);
        due("came back", x.count(11), 12);
        due("wrong", x.count(12), 4);
    }

    @Sentence(promise = 6, in = "Changes of rows",
        says = "Two rows swap places with their cells and margins; no echo is laid by that.")
    static void swappedWithAll() {
        EchoMargins x = new EchoMargins();
        x.write(0, 0, 9);
        x.swap(0, 4);
        due("its cells", x.cell(0, 0, 0), 9);
        dueMargin(x, 0, "10 12 14 16 41 43 45 47");
        dueMargin(x, 4, "02 04 06 31 33 35 37 00");
        due("laid", x.count(13), 1);
        due("neighbours in a wrap, cells", x.cell(0, 0, 4), 0);
        x.swap(4, 0);
        due("back again", x.cell(0, 0, 4), 1);
        due("laid", x.count(13), 1);
    }

    // ---- Settings

    @Sentence(promise = 9, in = "Settings", says = "0 echoes that a margin bears (1 to 16; 8;")
    static void rangeOfSetting0() {
        EchoMargins x = new EchoMargins();
        due("at first", x.count(20), 8);
        due("too small", x.set(0, 0), INVALID);
        due("too large", x.set(0, 17), INVALID);
        due("as it was", x.count(20), 8);
        due("the least", x.set(0, 1), 8);
        due("the most", x.set(0, 16), 1);
        due("the most", x.count(20), 16);
    }

    @Sentence(promise = 9, in = "Settings", says = "with less of them margins lose their first ones at once")
    static void marginsLoseTheFirstOnes() {
        EchoMargins x = new EchoMargins();
        x.lose(2);
        x.set(0, 7);
        dueMargin(x, 0, "12 14 16 41 43 45 47");
        dueMargin(x, 4, "02 04 06 31 33 35 37");
        dueMargin(x, 2, "");
        x.set(0, 7);
        dueMargin(x, 0, "12 14 16 41 43 45 47");
        x.set(0, 2);
        dueMargin(x, 0, "45 47");
        x.set(0, 1);
        dueMargin(x, 0, "47");
        x.set(0, 16);
        dueMargin(x, 0, "47");
        due("all margins did so", x.count(4), 4);
        due("not as others were laid", x.row(0, 9), 0);
        EchoMargins last = begun(9);
        last.set(0, 5);
        dueMargin(last, 8, "06 71 73 75 77");
    }

    @Sentence(promise = 9, in = "Settings", says = "1 days until an echo fades (1 to 99; 20)")
    static void rangeOfSetting1() {
        EchoMargins x = new EchoMargins();
        due("at first", x.count(21), 20);
        due("too small", x.set(1, 0), INVALID);
        due("too large", x.set(1, 100), INVALID);
        due("as it was", x.count(21), 20);
        due("the least", x.set(1, 1), 20);
        due("the most", x.set(1, 99), 1);
        due("the most", x.count(21), 99);
    }

    // ---- Texts

    @Sentence(promise = 22, in = "Texts", says = "There is a text of at most 60 characters, initially empty")
    static void lengthOfTheText() {
        EchoMargins x = new EchoMargins();
        due("initially", x.count(15), 0);
        for (int i = 1; i <= 60; i++) {
            due("character " + i, x.type(i % 3 == 1 ? 'a' : i % 3 == 2 ? '1' : ';'), i);
        }
        due("character 61", x.type('a'), LIMIT);
        due("count(15)", x.count(15), 60);
        due("no fault", x.fault(0), NOT_FOUND);
        due("all 60 are read", x.play(), 20);
    }

    @Sentence(promise = 25, in = "Texts", says = "orders, each followed by \";\"")
    static void eachFollowedByASign() {
        due("one", typed("a1;").play(), 1);
        due("two", typed("a1;a2;").play(), 2);
        due("not the last one", typed("a1;a2").play(), NOT_POSSIBLE);
        due("not the first one", typed("a1a2;").play(), NOT_POSSIBLE);
        due("none ahead of it", typed(";").play(), NOT_POSSIBLE);
        due("none between two", typed("a1;;a2;").play(), NOT_POSSIBLE);
    }

    @Sentence(promise = 25, in = "Texts",
        says = "\"w\" a row, \",\", a cell, \",\", a value (written), \"l\" a row (lost), \"m\" a row (mended), "
            + "\"s\" a row, \",\", a row (they swap places), \"a\" a row (laid anew) or \"d\" days (that end)")
    static void noOtherOrders() {
        String signs = "wlmsad";
        for (int sign = 32; sign <= 126; sign++) {
            EchoMargins one = new EchoMargins();
            one.lose(0);
            one.type(sign);
            type(one, "1;");
            boolean oneNumber = "lad".indexOf(sign) >= 0;
            due("with one number, sign " + sign, one.play(), oneNumber ? 1 : NOT_POSSIBLE);
            due("reason, sign " + sign, one.fault(1), sign == 'm' ? 2 : sign == 'l' ? 2 : oneNumber ? NOT_FOUND : 1);
            due("cause, sign " + sign, one.fault(2), sign == 'm' || sign == 'l' ? NOT_POSSIBLE
                : oneNumber ? NOT_FOUND : signs.indexOf(sign) >= 0 ? 2 : 0);
            EchoMargins two = new EchoMargins();
            two.type(sign);
            type(two, "1,2;");
            due("with two numbers, sign " + sign, two.play(), sign == 's' ? 1 : NOT_POSSIBLE);
            EchoMargins three = new EchoMargins();
            three.type(sign);
            type(three, "1,2,3;");
            due("with three numbers, sign " + sign, three.play(), sign == 'w' ? 1 : NOT_POSSIBLE);
        }
        EchoMargins mended = typed("m1;");
        mended.lose(1);
        due("mended", mended.play(), 1);
    }

    @Sentence(promise = 25, in = "Texts", says = "numbers of 1 to 3 digits, 0 ahead allowed")
    static void digitsOfNumbers() {
        EchoMargins x = typed("w1,2,3;w01,02,03;w001,003,003;l1;m01;l001;m001;s001,02;a003;");
        due("with 0 ahead", x.play(), 9);
        due("three digits", typed("w4,7,999;").play(), 1);
        due("three digits are read", valueBy("w4,7,987;"), 987);
        due("two digits are read", valueBy("w4,7,98;"), 98);
        due("0 ahead", valueBy("w04,007,098;"), 98);
        due("only 0", valueBy("w4,7,000;"), 0);
        due("no digit", typed("d;").fault(2), 1);
        due("four digits", typed("d0001;").fault(2), 4);
        due("four digits of a value", typed("w0,0,0001;").fault(2), 8);
        due("four digits of a cell", typed("w0,0001,1;").fault(2), 6);
        due("no digit of a cell", typed("w0,,1;").fault(2), 3);
        due("no digit of the other row", typed("s0,;").fault(2), 3);
        due("a sign ahead", typed("d+1;").fault(2), 1);
        due("the sign before 0", typed("d1/;").fault(2), 2);
        due("the sign behind 9", typed("d1:;").fault(2), 2);
        due("all digits", typed("w0,0,123;w0,0,456;w0,0,789;d90;").play(), 4);
    }

    private static int valueBy(String text) {
        EchoMargins x = typed(text);
        x.play();
        return x.cell(4, 7, 0);
    }

    @Sentence(promise = 24, in = "Texts",
        says = "The fault of the text is the position, from 0, of the first character of the first order that is not possible")
    static void positionOfTheFault() {
        due("the first order", typed("a5;a1;").fault(0), 0);
        due("the second one", typed("a1;a5;a6;").fault(0), 3);
        due("not the worse one behind", typed("a1;a5;x").fault(0), 3);
        due("not the other one behind", typed("a1;x;a5;").fault(0), 3);
        String orders = "a1;a1;a1;a1;a1;a1;a1;a1;a1;a1;a1;a1;a1;a1;a1;a1;a1;a1;";
        due("the last order of a full text", typed(orders + "a1;a5;").fault(0), 57);
        due("the last sign of a full text", typed(orders + "s1,2;w").fault(0), 59);
    }

    @Sentence(promise = 24, in = "Texts", says = "its reason is 1 if it is not of this form, its \";\" included")
    static void reasonOfFormWithItsEnd() {
        due("without its end", typed("a1").fault(1), 1);
        due("its end is another sign", typed("a1,").fault(1), 1);
        due("not possible, and without its end", typed("a9").fault(1), 1);
        due("with its end", typed("a9;").fault(1), 2);
        due("without its end, behind another one", typed("a1;m1").fault(1), 1);
    }

    @Sentence(promise = 24, in = "Texts", says = "and otherwise 2, when those ahead of it are done")
    static void reasonWhenThoseAheadAreDone() {
        due("lost twice", typed("l1;l1;").fault(1), 2);
        due("lost twice", typed("l1;l1;").fault(0), 3);
        due("mended behind", typed("l1;m1;l1;").fault(1), NOT_FOUND);
        due("mended without", typed("m1;").fault(1), 2);
        due("written, but lost", typed("l1;w1,0,0;").fault(1), 2);
        EchoMargins x = new EchoMargins();
        x.lose(1);
        type(x, "m1;m1;");
        due("mended twice", x.fault(0), 3);
        x.mend(1);
        due("by the state of now", x.fault(0), 0);
    }

    @Sentence(promise = 24, in = "Texts",
        says = "its cause is with the reason 1 at which character of the order, from 0, it breaks off")
    static void causeOfForm() {
        String[] texts = {"x", " ", ";", "ax", "a;", "a1x", "a12x", "a123x", "a1234;", "w1,x", "w1;", "w1,1,1,", "s1,1,", "a1;a2;l1,2;"};
        int[] causes = {0, 0, 0, 1, 1, 2, 3, 4, 4, 3, 2, 6, 4, 2};
        for (int i = 0; i < texts.length; i++) {
            due("cause of " + texts[i], typed(texts[i]).fault(2), causes[i]);
        }
        due("counted from the order", typed("a1;a2;l1,2;").fault(0), 6);
    }

    @Sentence(promise = 24, in = "Texts", says = "(of one that the text ends too early it is its length)")
    static void causeOfTextsThatEndTooEarly() {
        String order = "w123,456,789;";
        for (int length = 1; length < order.length(); length++) {
            EchoMargins x = typed("a1;" + order.substring(0, length));
            due("position with " + length, x.fault(0), 3);
            due("reason with " + length, x.fault(1), 1);
            due("cause with " + length, x.fault(2), length);
        }
        StringBuilder full = new StringBuilder();
        while (full.length() < 57) {
            full.append("a1;");
        }
        due("at the end of a full text", typed(full + "a12").fault(2), 3);
        due("at the end of a full text", typed(full + "a12").fault(0), 57);
    }

    @Sentence(promise = 24, in = "Texts", says = "with the reason 2 the error code that the call returns for it")
    static void causeOfCalls() {
        due("no such row", typed("l5;").fault(2), INVALID);
        due("no such cell", typed("w0,8,0;").fault(2), INVALID);
        due("no such days", typed("d100;").fault(2), INVALID);
        due("no days", typed("d0;").fault(2), INVALID);
        due("the same row", typed("s1,01;").fault(2), INVALID);
        due("it lives", typed("m1;").fault(2), NOT_POSSIBLE);
        due("it is lost", typed("l1;a1;").fault(2), NOT_POSSIBLE);
        due("one of two is lost", typed("l1;s1,2;").fault(2), NOT_POSSIBLE);
        due("both errors", typed("l1;w1,9,9;").fault(2), INVALID);
        EchoMargins x = typed("d98;d01;d1;");
        for (int day = 99; day <= 9900; day += 99) {
            x.days(99);
        }
        due("days up to 9999, and one more", x.fault(2), LIMIT);
        due("position", x.fault(0), 8);
    }

    @Sentence(promise = 25, in = "Texts", says = "The text stays, whether it has a fault or not.")
    static void theTextStays() {
        EchoMargins good = typed("d1;");
        good.fault(0);
        good.play();
        due("without a fault", good.count(15), 3);
        due("again", good.play(), 1);
        EchoMargins bad = typed("d1;x");
        bad.fault(0);
        bad.play();
        due("with a fault", bad.count(15), 4);
        due("again", bad.fault(0), 3);
        bad.begin(3);
        due("begun anew", bad.count(15), 4);
    }

    // ---- Changes and errors

    @Sentence(promise = 20, in = "Changes and errors",
        says = "The changes are the calls of begin, write, lose, mend, swap, lay, days, set and play that return no error.")
    static void whatIsAChange() {
        changes("begin", x -> x.begin(3));
        changes("write", x -> x.write(0, 0, 0));
        changes("write of which no echo is laid", x -> x.write(4, 0, 0));
        changes("lose", x -> x.lose(0));
        changes("mend", x -> x.mend(3));
        changes("swap", x -> x.swap(0, 1));
        changes("lay", x -> x.lay(0));
        changes("lay of nothing", x -> x.lay(4));
        changes("days", x -> x.days(1));
        changes("set, as it is", x -> x.set(0, 8));
        changes("play of nothing", EchoMargins::play);
    }

    /** Two neighbours of the row 4 are lost, and its cells are unknown. */
    private static EchoMargins withLostRows() {
        EchoMargins x = new EchoMargins();
        x.begin(6);
        type(x, "l3;l5;l4;m4;");
        x.play();
        x.clearText();
        return x;
    }

    private static void changes(String call, ToIntFunction<EchoMargins> change) {
        EchoMargins x = withLostRows();
        int answer = change.applyAsInt(x);
        due(call + " is possible", Math.min(answer, 0), 0);
        due(call + " is one change", x.count(14), 3);
        due(call + ", undone", x.undo(), 2);
        alike(call + ", undone", () -> {
            EchoMargins y = withLostRows();
            change.applyAsInt(y);
            y.undo();
            return y;
        }, BoundaryTermsTest::withLostRows);
    }

    @Sentence(promise = 20, in = "Changes and errors", says = "The changes are the calls of begin, write, lose")
    static void whatIsNoChange() {
        asks("cell", x -> x.cell(6, 1, 0));
        asks("margin", x -> x.margin(0, 0, 2));
        asks("row", x -> x.row(4, 7));
        asks("at", x -> x.at(6));
        asks("would", x -> x.would(4, 0));
        asks("order", x -> x.order(0));
        asks("comes", EchoMargins::comes);
        asks("safeFor", EchoMargins::safeFor);
        asks("mean", EchoMargins::mean);
        asks("share", EchoMargins::share);
        asks("count", x -> x.count(3));
        asks("fault", x -> x.fault(0));
        EchoMargins x = new EchoMargins();
        x.type('d');
        x.clearText();
        due("texts are no changes", x.count(14), 0);
        x.days(1);
        x.undo();
        due("nor is undo", x.count(14), 0);
    }

    private static void asks(String call, ToIntFunction<EchoMargins> question) {
        int answer = question.applyAsInt(busy());
        due(call + " has an answer", Math.min(answer, 0), 0);
        changesNothing(call, BoundaryTermsTest::busy, question, answer);
    }

    @Sentence(promise = 21, in = "Changes and errors", says = "A history of at most 4 states is kept")
    static void atMostFourStates() {
        EchoMargins x = new EchoMargins();
        for (int i = 1; i <= 7; i++) {
            x.days(1);
            due("states after " + i, x.count(14), Math.min(i, 4));
        }
        for (int i = 3; i >= 0; i--) {
            due("undo", x.undo(), i);
            due("count(14)", x.count(14), i);
            due("day", x.count(1), 3 + i);
        }
        due("no fifth one", x.undo(), NOT_POSSIBLE);
        due("day", x.count(1), 3);
    }

    @Sentence(promise = 21, in = "Changes and errors", says = "each change records everything before it but the text")
    static void everythingButTheText() {
        EchoMargins x = typed("d7;");
        x.days(1);
        x.type('x');
        x.undo();
        due("the text is as it was typed", x.count(15), 4);
        due("its fault, too", x.fault(0), 3);
        x.days(2);
        x.clearText();
        x.undo();
        due("the text is as it was cleared", x.count(15), 0);
        due("the day", x.count(1), 0);
    }

    @Sentence(promise = 21, in = "Changes and errors", says = "if there are 5 states then, the oldest one is dropped")
    static void theOldestStateIsDropped() {
        for (int many = 5; many <= 14; many++) {
            EchoMargins x = new EchoMargins();
            for (int i = 1; i <= many; i++) {
                x.write(0, 0, i);
            }
            for (int i = 1; i <= 4; i++) {
                x.undo();
                due("the state " + i + " ahead of " + many, x.cell(0, 0, 0), many - i);
            }
            due("the others are dropped", x.undo(), NOT_POSSIBLE);
            x.write(0, 0, 999);
            due("from there on", x.undo(), 0);
            due("the value", x.cell(0, 0, 0), many - 4);
        }
    }

    @Sentence(promise = 3, in = "Changes and errors",
        says = "If several errors apply to a call, INVALID_ARGUMENT is returned rather than NOT_POSSIBLE")
    static void invalidRatherThanNotPossible() {
        EchoMargins x = new EchoMargins();
        x.lose(1);
        x.lose(2);
        due("write, cell", x.write(1, 8, 0), INVALID);
        due("write, value", x.write(1, 0, 1000), INVALID);
        due("swap of a lost row and none", x.swap(1, 5), INVALID);
        due("swap of none and a lost row", x.swap(-1, 1), INVALID);
        due("swap of a lost row and itself", x.swap(1, 1), INVALID);
        due("swap of two lost rows", x.swap(1, 2), NOT_POSSIBLE);
        due("would of a row that lives", x.would(0, 4), INVALID);
        due("would of a row that lives", x.would(0, -1), INVALID);
        EchoMargins invalidOrder = typed("l1;w1,8,0;");
        due("in a text", invalidOrder.fault(2), INVALID);
    }

    @Sentence(promise = 14, in = "Changes and errors",
        says = "NOT_POSSIBLE rather than LIMIT_REACHED, and LIMIT_REACHED rather than NOT_FOUND")
    static void theOtherErrorsInTheirOrder() {
        EchoMargins x = begun(9);
        due("would of a row that lives has no age", x.would(0, 3), NOT_POSSIBLE);
        for (int row = 0; row < 5; row++) {
            x.lose(row);
        }
        due("order: too many, and not so many", x.order(5), LIMIT);
        due("order: too many, and far beyond", x.order(Integer.MAX_VALUE), LIMIT);
    }

    @Sentence(promise = 22, in = "Changes and errors", says = "INVALID_ARGUMENT is returned rather than NOT_POSSIBLE, "
        + "NOT_POSSIBLE rather than LIMIT_REACHED, and LIMIT_REACHED rather than NOT_FOUND")
    static void invalidRatherThanTheOthers() {
        EchoMargins x = begun(9);
        for (int i = 0; i < 60; i++) {
            x.type('d');
        }
        due("type, full", x.type(127), INVALID);
        due("type, full", x.type(31), INVALID);
        for (int day = 99; day <= 9999; day += 99) {
            x.days(99);
        }
        due("days on the last day", x.days(100), INVALID);
        due("days on the last day", x.days(0), INVALID);
        for (int row = 0; row < 5; row++) {
            x.lose(row);
        }
        due("order, five are lost", x.order(-1), INVALID);
        due("cell of a lost row", x.cell(0, 0, 5), INVALID);
        due("cell of a lost row", x.cell(0, 8, 0), INVALID);
        due("margin of a lost row", x.margin(0, 0, 5), INVALID);
        due("margin of a lost row", x.margin(0, -1, 0), INVALID);
        due("margin that has not so many", x.margin(8, 16, -1), INVALID);
        x.clearText();
        due("fault of no text", x.fault(3), INVALID);
        due("fault of no text", x.fault(-1), INVALID);
    }

    /** A row is lost, a row has wrong and unknown cells, some echoes are faded, and more than 4 changes were done. */
    private static EchoMargins busy() {
        EchoMargins x = begun(7);
        x.set(0, 12);
        x.set(1, 2);
        x.swap(0, 5);
        x.write(0, 0, 77);
        x.write(6, 1, 5);
        x.days(2);
        x.swap(0, 2);
        x.lay(0);
        x.write(2, 3, 8);
        x.swap(2, 0);
        x.lose(0);
        x.days(1);
        x.mend(0);
        x.write(3, 3, 999);
        x.lose(4);
        type(x, "w1,1,1;l1;m1;m4;m4;");
        return x;
    }

    private static EchoMargins busyOnTheLastDay() {
        EchoMargins x = begun(3);
        for (int day = 99; day <= 9801; day += 99) {
            x.days(99);
        }
        x.lay(1);
        x.days(99);
        x.days(97);
        x.write(0, 1, 7);
        x.lose(2);
        return x;
    }

    private static EchoMargins fiveLost() {
        EchoMargins x = begun(9);
        x.write(8, 7, 3);
        x.write(1, 4, 3);
        x.days(4);
        for (int row = 0; row < 5; row++) {
            x.lose(row);
        }
        for (int i = 0; i < 60; i++) {
            x.type('5');
        }
        return x;
    }

    @Sentence(promise = 21, in = "Changes and errors", says = "A call that returns an error changes nothing.")
    static void errorsOfChangesChangeNothing() {
        Supplier<EchoMargins> busy = BoundaryTermsTest::busy;
        changesNothing("begin(2)", busy, x -> x.begin(2), INVALID);
        changesNothing("begin(10)", busy, x -> x.begin(10), INVALID);
        changesNothing("write, row", busy, x -> x.write(7, 0, 5), INVALID);
        changesNothing("write, cell", busy, x -> x.write(1, 8, 5), INVALID);
        changesNothing("write, value", busy, x -> x.write(1, 0, 1000), INVALID);
        changesNothing("write, lost", busy, x -> x.write(4, 0, 5), NOT_POSSIBLE);
        changesNothing("lose, row", busy, x -> x.lose(7), INVALID);
        changesNothing("lose, lost", busy, x -> x.lose(4), NOT_POSSIBLE);
        changesNothing("mend, row", busy, x -> x.mend(-1), INVALID);
        changesNothing("mend, lives", busy, x -> x.mend(0), NOT_POSSIBLE);
        changesNothing("swap, row", busy, x -> x.swap(0, 7), INVALID);
        changesNothing("swap, the same", busy, x -> x.swap(1, 1), INVALID);
        changesNothing("swap, lost", busy, x -> x.swap(4, 1), NOT_POSSIBLE);
        changesNothing("lay, row", busy, x -> x.lay(7), INVALID);
        changesNothing("lay, lost", busy, x -> x.lay(4), NOT_POSSIBLE);
        changesNothing("days(0)", busy, x -> x.days(0), INVALID);
        changesNothing("days(100)", busy, x -> x.days(100), INVALID);
        changesNothing("days beyond the last one", BoundaryTermsTest::busyOnTheLastDay, x -> x.days(4), LIMIT);
        changesNothing("set, what", busy, x -> x.set(2, 1), INVALID);
        changesNothing("set, 0", busy, x -> x.set(0, 17), INVALID);
        changesNothing("set, 1", busy, x -> x.set(1, 0), INVALID);
        changesNothing("undo", EchoMargins::new, EchoMargins::undo, NOT_POSSIBLE);
    }

    @Sentence(promise = 25, in = "Changes and errors", says = "A call that returns an error changes nothing.")
    static void errorsOfTextsChangeNothing() {
        Supplier<EchoMargins> busy = BoundaryTermsTest::busy;
        changesNothing("type, too small", busy, x -> x.type(31), INVALID);
        changesNothing("type, too large", busy, x -> x.type(127), INVALID);
        changesNothing("type, full", BoundaryTermsTest::fiveLost, x -> x.type('1'), LIMIT);
        changesNothing("fault, what", busy, x -> x.fault(3), INVALID);
        changesNothing("fault, none", EchoMargins::new, x -> x.fault(0), NOT_FOUND);
        changesNothing("play", busy, EchoMargins::play, NOT_POSSIBLE);
        changesNothing("play, form", BoundaryTermsTest::fiveLost, EchoMargins::play, NOT_POSSIBLE);
    }

    @Sentence(promise = 14, in = "Changes and errors", says = "A call that returns an error changes nothing.")
    static void errorsOfQuestionsChangeNothing() {
        Supplier<EchoMargins> busy = BoundaryTermsTest::busy;
        Supplier<EchoMargins> five = BoundaryTermsTest::fiveLost;
        changesNothing("cell", busy, x -> x.cell(0, 8, 0), INVALID);
        changesNothing("cell, lost", busy, x -> x.cell(4, 0, 0), NOT_FOUND);
        changesNothing("margin", busy, x -> x.margin(7, 0, 0), INVALID);
        changesNothing("margin, lost", busy, x -> x.margin(4, 0, 0), NOT_FOUND);
        changesNothing("row", busy, x -> x.row(0, 10), INVALID);
        changesNothing("at", busy, x -> x.at(7), INVALID);
        changesNothing("would", busy, x -> x.would(0, 4), INVALID);
        changesNothing("would, lives", busy, x -> x.would(0, 0), NOT_POSSIBLE);
        changesNothing("order", busy, x -> x.order(-1), INVALID);
        changesNothing("order, not so many", busy, x -> x.order(1), NOT_FOUND);
        changesNothing("order, five", five, x -> x.order(0), LIMIT);
        changesNothing("comes, five", five, EchoMargins::comes, LIMIT);
        changesNothing("count", busy, x -> x.count(22), INVALID);
    }

    @Sentence(promise = 12, in = "Changes and errors",
        says = "If there is no row with a certain number, this is INVALID_ARGUMENT.")
    static void noSuchRow() {
        for (int rows = 3; rows <= 9; rows++) {
            EchoMargins x = begun(9);
            x.lose(8);
            x.begin(rows);
            refused("write", 0, rows - 1, row -> x.write(row, 0, 0));
            refused("lose", 0, rows - 1, x::lose);
            refused("mend", 0, rows - 1, x::mend);
            refused("swap, one", 0, rows - 1, row -> x.swap(row, 0));
            refused("swap, other", 0, rows - 1, row -> x.swap(0, row));
            refused("lay", 0, rows - 1, x::lay);
            refused("cell", 0, rows - 1, row -> x.cell(row, 0, 1));
            refused("margin", 0, rows - 1, row -> x.margin(row, 0, 0));
            refused("row", 0, rows - 1, row -> x.row(row, 0));
            refused("would", 0, rows - 1, row -> x.would(row, 0));
            due("the last row", x.lose(rows - 1), 8);
            due("the last row", x.mend(rows - 1), 8);
        }
    }

    @Sentence(promise = 20, in = "Changes and errors", says = "The constants: `INVALID_ARGUMENT = -1000001`")
    static void constants() {
        due("INVALID_ARGUMENT", EchoMargins.INVALID_ARGUMENT, -1000001);
        due("NOT_POSSIBLE", EchoMargins.NOT_POSSIBLE, -1000002);
        due("LIMIT_REACHED", EchoMargins.LIMIT_REACHED, -1000003);
        due("NOT_FOUND", EchoMargins.NOT_FOUND, -1000004);
    }

    public static void main(String[] args) throws Exception {
        runAll(BoundaryTermsTest.class);
    }
}
