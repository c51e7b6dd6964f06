/** For each promise: ordinary calls, the edges that the document names, and wrong arguments. */
public final class PromisesTest {
    static final int INVALID = -1000001;
    static final int NOT_POSSIBLE = -1000002;
    static final int LIMIT = -1000003;
    static final int NOT_FOUND = -1000004;

    static int wrong = 0;

    static void due(String call, int got, int want) {
        if (got != want) {
            wrong++;
            System.out.println(call + " answered " + got + ", due is " + want);
        }
    }

    static void type(EchoMargins x, String text) {
        for (int i = 0; i < text.length(); i++) {
            x.type(text.charAt(i));
        }
    }

    static void newObject() {
        EchoMargins x = new EchoMargins();
        due("1: count(0)", x.count(0), 5);
        due("1: count(1)", x.count(1), 0);
        due("1: count(2)", x.count(2), 31);
        due("1: count(4)", x.count(4), 40);
        for (int what = 5; what <= 15; what++) {
            due("1: count " + what, x.count(what), 0);
        }
        due("1: count(20)", x.count(20), 8);
        due("1: count(21)", x.count(21), 20);
        for (int row = 0; row < 5; row++) {
            due("1: row place", x.row(row, 0), row);
            due("1: row lives", x.row(row, 1), 1);
            due("1: at", x.at(row), row);
            due("1: cell value", x.cell(row, 7, 0), 0);
            due("1: crowded out", x.row(row, 9), 0);
        }
        due("1: undo", x.undo(), NOT_POSSIBLE);
        // Row by row, by cells: the margin of the row 0 has the even cells of the row 1 first.
        due("1: margin row", x.margin(0, 0, 0), 1);
        due("1: margin cell", x.margin(0, 3, 1), 6);
        due("1: margin row of 4", x.margin(0, 4, 0), 4);
        due("1: margin cell of 4", x.margin(0, 4, 1), 1);
        // The margin of the last row has the cells of the row 0 first.
        due("1: margin of 4, row", x.margin(4, 0, 0), 0);
        due("1: margin of 4, cell", x.margin(4, 0, 1), 0);
    }

    static void begin() {
        EchoMargins x = new EchoMargins();
        due("2: begin(2)", x.begin(2), INVALID);
        due("2: begin(10)", x.begin(10), INVALID);
        due("2: no change", x.count(14), 0);
        due("2: begin(3)", x.begin(3), 24);
        due("2: begin(9)", x.begin(9), 72);
        due("2: count(0)", x.count(0), 9);
        x.write(0, 0, 7);
        x.swap(1, 2);
        x.lose(3);
        x.mend(3);
        x.set(0, 5);
        x.set(1, 9);
        x.days(4);
        x.type('a');
        due("2: begin(4)", x.begin(4), 20);
        due("2: day stays", x.count(1), 4);
        due("2: setting 0 stays", x.count(20), 5);
        due("2: setting 1 stays", x.count(21), 9);
        due("2: the text stays", x.count(15), 1);
        for (int what = 8; what <= 13; what++) {
            due("2: count " + what, x.count(what), 0);
        }
        due("2: times lost", x.row(3, 8), 0);
        due("2: crowded out", x.row(0, 9), 0);
        due("2: cell", x.cell(0, 0, 0), 0);
        due("2: at(1)", x.at(1), 1);
        due("2: at(4)", x.at(4), INVALID);
        due("2: row(4, 0)", x.row(4, 0), INVALID);
        due("2: laid on the day of now", x.margin(0, 0, 3), 0);
        x.lose(0);
        x.lose(1);
        due("2: begin(3)", x.begin(3), 15);
        due("2: all live", x.count(2), 7);
    }

    static void write() {
        EchoMargins x = new EchoMargins();
        due("3: even", x.write(2, 4, 999), 1);
        due("3: value", x.cell(2, 4, 0), 999);
        due("3: at the end of the upper margin", x.margin(1, 7, 2), 999);
        due("3: the old one went", x.row(1, 4), 8);
        due("3: nothing was crowded out", x.row(1, 9), 0);
        due("3: odd", x.write(2, 5, 0), 1);
        due("3: at the end of the lower margin", x.margin(3, 7, 1), 5);
        due("3: last row, odd", x.write(4, 1, 3), 1);
        due("3: in the margin of the first row", x.margin(0, 7, 2), 3);
        due("3: writings", x.count(8), 3);
        due("3: laid", x.count(13), 3);
        x.lose(1);
        due("3: neighbour lost", x.write(2, 4, 5), 0);
        due("3: value all the same", x.cell(2, 4, 0), 5);
        due("3: writings", x.count(8), 4);
        due("3: laid", x.count(13), 3);
        due("3: lost", x.write(1, 0, 0), NOT_POSSIBLE);
        due("3: lost, wrong value", x.write(1, 0, 1000), INVALID);
        due("3: row -1", x.write(-1, 0, 0), INVALID);
        due("3: row 5", x.write(5, 0, 0), INVALID);
        due("3: cell -1", x.write(0, -1, 0), INVALID);
        due("3: cell 8", x.write(0, 8, 0), INVALID);
        due("3: value -1", x.write(0, 0, -1), INVALID);
        due("3: errors change nothing", x.count(8), 4);
    }

    static void lose() {
        EchoMargins x = new EchoMargins();
        x.lose(1);
        x.write(2, 2, 8);
        due("4: one even cell has no echo, nor have the others", x.lose(2), 4);
        due("4: margin gone", x.row(2, 4), 0);
        due("4: count(4)", x.count(4), 24);
        due("4: lives", x.row(2, 1), 0);
        due("4: times", x.row(2, 8), 1);
        due("4: rows lost", x.count(9), 2);
        due("4: place stays", x.row(2, 0), 2);
        due("4: again", x.lose(2), NOT_POSSIBLE);
        due("4: no such row", x.lose(5), INVALID);
        due("4: no such row", x.lose(-1), INVALID);
        EchoMargins y = new EchoMargins();
        y.lose(0);
        y.lose(1);
        y.mend(1);
        due("4: four unknown cells never come back as they are", y.lose(1), 4);
        due("4: times", y.row(1, 8), 2);
    }

    static void mend() {
        EchoMargins x = new EchoMargins();
        x.write(1, 0, 10);
        x.write(1, 1, 11);
        x.lose(1);
        x.write(0, 1, 5);
        x.write(2, 0, 6);
        due("5: all come back", x.mend(1), 8);
        due("5: even", x.cell(1, 0, 0), 10);
        due("5: odd", x.cell(1, 1, 0), 11);
        due("5: laid: 2 writings and 24", x.count(13), 26);
        // The upper neighbour's odd cells are first in the margin, then the lower one's even cells.
        due("5: margin", x.row(1, 4), 8);
        due("5: first", x.margin(1, 0, 0), 0);
        due("5: first, cell", x.margin(1, 0, 1), 1);
        due("5: first, value", x.margin(1, 0, 2), 5);
        due("5: fifth", x.margin(1, 4, 0), 2);
        due("5: fifth, value", x.margin(1, 4, 2), 6);
        due("5: the row itself comes last in the upper margin", x.margin(0, 7, 0), 1);
        due("5: rows mended", x.count(10), 1);
        due("5: came back", x.count(11), 8);
        due("5: it lives", x.mend(1), NOT_POSSIBLE);
        due("5: no such row", x.mend(5), INVALID);
        due("5: no such row", x.mend(-1), INVALID);
        x.set(1, 1);
        x.lose(1);
        x.days(1);
        x.lay(0);
        x.days(1);
        due("5: faded echoes tell nothing", x.mend(1), 0);
        due("5: unknown", x.row(1, 5), 8);
        due("5: none is wrong", x.row(1, 6), 0);
        due("5: unknown cells are not laid", x.lay(1), 0);
    }

    static void mendWrong() {
        EchoMargins x = new EchoMargins();
        x.set(0, 16);
        x.swap(1, 3);
        x.write(1, 0, 10);
        x.write(1, 1, 11);
        x.swap(1, 3);
        x.write(0, 0, 0);
        due("5: old echoes of two cells", x.lose(1), 6);
        due("5: six as they were", x.mend(1), 6);
        due("5: two are wrong", x.row(1, 6), 2);
        due("5: the old value", x.cell(1, 0, 0), 0);
        due("5: wrong", x.cell(1, 0, 1), 1);
        due("5: not wrong", x.cell(1, 2, 1), 0);
        due("5: came wrong", x.count(12), 2);
        due("5: wrong ones", x.count(7), 2);
        x.write(1, 0, 10);
        due("5: written", x.cell(1, 0, 1), 0);
        due("5: one is left", x.row(1, 6), 1);
        due("5: a wrong value that comes back is as it was", x.lose(1), 8);
        due("5: a lost row has no wrong cells", x.row(1, 6), 0);
        due("5: nor has it this one", x.cell(1, 1, 1), 0);
        due("5: nor are they counted", x.count(7), 0);
        due("5: mended again", x.mend(1), 8);
        due("5: not wrong now", x.row(1, 6), 0);
        due("5: came wrong, as before", x.count(12), 2);
    }

    static void mendUnknown() {
        EchoMargins x = new EchoMargins();
        x.lose(0);
        x.lose(1);
        x.mend(1);
        due("5: even cells are unknown", x.row(1, 5), 4);
        x.mend(0);
        x.swap(1, 0);
        x.swap(2, 3);
        // The row 1 is at the place 0 now, between 4 and 0; no margin there has an even cell of it.
        due("5: no echo", x.cell(1, 0, 2), NOT_FOUND);
        EchoMargins y = new EchoMargins();
        y.lose(1);
        y.mend(1);
        y.swap(0, 3);
        y.lose(1);
        y.mend(1);
        due("5: even cells are unknown", y.cell(1, 0, 0), NOT_FOUND);
        y.swap(0, 3);
        due("5: the old echo is there again", y.cell(1, 0, 2), 0);
        due("5: but not of the value it has", y.cell(1, 0, 4), 0);
        due("5: unknown ones never come back", y.lose(1), 4);
        due("5: would, wrong", y.would(1, 1), 4);
        due("5: mended", y.mend(1), 4);
        due("5: wrong since they were unknown", y.row(1, 6), 4);
    }

    static void swap() {
        EchoMargins x = new EchoMargins();
        x.begin(6);
        due("6: swap(0, 5)", x.swap(0, 5), 1);
        due("6: swap(0, 2)", x.swap(0, 2), 3);
        due("6: swap(0, 4)", x.swap(0, 4), 2);
        due("6: place", x.row(0, 0), 4);
        due("6: at(4)", x.at(4), 0);
        due("6: at(0)", x.at(0), 5);
        due("6: at(2)", x.at(2), 4);
        due("6: at(5)", x.at(5), 2);
        due("6: no echo was laid", x.count(13), 0);
        due("6: the margin went along", x.margin(0, 0, 0), 1);
        due("6: the same", x.swap(1, 1), INVALID);
        due("6: no such one", x.swap(-1, 1), INVALID);
        due("6: no such other", x.swap(1, 6), INVALID);
        x.lose(1);
        due("6: one lost", x.swap(1, 2), NOT_POSSIBLE);
        due("6: other lost", x.swap(2, 1), NOT_POSSIBLE);
        due("6: lost, and the same", x.swap(1, 1), INVALID);
        due("6: lost, and none", x.swap(1, 6), INVALID);
    }

    static void lay() {
        EchoMargins x = new EchoMargins();
        x.swap(0, 2);
        due("7: all", x.lay(0), 8);
        due("7: laid", x.count(13), 8);
        due("7: full margins lose the first ones", x.row(1, 9), 4);
        due("7: the other one, too", x.row(3, 9), 4);
        due("7: by cells", x.margin(1, 4, 1), 0);
        due("7: by cells", x.margin(1, 7, 1), 6);
        due("7: again", x.lay(0), 8);
        due("7: those of the same cell are not counted", x.row(1, 9), 4);
        x.lose(1);
        due("7: only the odd ones", x.lay(0), 4);
        due("7: lost", x.lay(1), NOT_POSSIBLE);
        due("7: no such row", x.lay(5), INVALID);
        due("7: no such row", x.lay(-1), INVALID);
    }

    static void days() {
        EchoMargins x = new EchoMargins();
        due("8: days(0)", x.days(0), INVALID);
        due("8: days(100)", x.days(100), INVALID);
        due("8: days(1)", x.days(1), 1);
        x.undo();
        for (int i = 1; i <= 101; i++) {
            due("8: days(99)", x.days(99), 99 * i);
        }
        due("8: above 9999", x.days(1), LIMIT);
        due("8: out of range first", x.days(100), INVALID);
        due("8: count(1)", x.count(1), 9999);
        due("8: 40 faded", x.count(5), 40);
        due("8: an old one", x.margin(0, 0, 3), 9999);
        type(x, "d1;");
        due("8: in a text", x.fault(2), LIMIT);
    }

    static void set() {
        EchoMargins x = new EchoMargins();
        due("9: set(0, 0)", x.set(0, 0), INVALID);
        due("9: set(0, 17)", x.set(0, 17), INVALID);
        due("9: set(1, 0)", x.set(1, 0), INVALID);
        due("9: set(1, 100)", x.set(1, 100), INVALID);
        due("9: set(-1, 5)", x.set(-1, 5), INVALID);
        due("9: set(2, 5)", x.set(2, 5), INVALID);
        due("9: set(0, 16)", x.set(0, 16), 8);
        due("9: set(0, 3)", x.set(0, 3), 16);
        due("9: the first ones went", x.margin(0, 0, 1), 3);
        due("9: at once", x.count(4), 15);
        due("9: not counted", x.row(0, 9), 0);
        due("9: set(0, 1)", x.set(0, 1), 3);
        due("9: the last one", x.margin(0, 0, 1), 7);
        x.write(1, 0, 4);
        due("9: one", x.row(0, 4), 1);
        due("9: the new one", x.margin(0, 0, 2), 4);
        due("9: crowded out", x.row(0, 9), 1);
        due("9: set(1, 99)", x.set(1, 99), 20);
        due("9: set(1, 1)", x.set(1, 1), 99);
        due("9: set(1, 1)", x.set(1, 1), 1);
        due("9: a change each time", x.count(14), 4);
        x.set(0, 16);
        x.begin(3);
        x.swap(0, 1);
        x.lay(0);
        due("9: more than eight", x.row(2, 4), 12);
    }

    static void cell() {
        EchoMargins x = new EchoMargins();
        x.write(1, 0, 10);
        x.days(3);
        due("10: value", x.cell(1, 0, 0), 10);
        due("10: echo", x.cell(1, 0, 2), 10);
        due("10: age", x.cell(1, 0, 3), 3);
        due("10: the same", x.cell(1, 0, 4), 1);
        x.set(1, 3);
        due("10: not faded yet", x.cell(1, 0, 3), 3);
        x.days(1);
        due("10: faded, echo", x.cell(1, 0, 2), NOT_FOUND);
        due("10: faded, age", x.cell(1, 0, 3), NOT_FOUND);
        due("10: faded", x.cell(1, 0, 4), 0);
        x.write(1, 0, 11);
        x.lose(1);
        due("10: lost, value", x.cell(1, 0, 0), NOT_FOUND);
        due("10: lost, wrong", x.cell(1, 0, 1), 0);
        due("10: lost, echo", x.cell(1, 0, 2), 11);
        due("10: lost, age", x.cell(1, 0, 3), 0);
        due("10: lost: it has no value", x.cell(1, 0, 4), 0);
        x.mend(1);
        due("10: unknown", x.cell(1, 2, 0), NOT_FOUND);
        due("10: unknown, not wrong", x.cell(1, 2, 1), 0);
        x.lose(0);
        due("10: neighbour lost", x.cell(1, 0, 2), NOT_FOUND);
        for (int what = 0; what <= 4; what++) {
            due("10: row -1", x.cell(-1, 0, what), INVALID);
            due("10: row 5", x.cell(5, 0, what), INVALID);
            due("10: cell -1", x.cell(0, -1, what), INVALID);
            due("10: cell 8", x.cell(0, 8, what), INVALID);
        }
        due("10: what -1", x.cell(0, 0, -1), INVALID);
        due("10: what 5", x.cell(0, 0, 5), INVALID);
        due("10: what 5 of a lost row", x.cell(0, 0, 5), INVALID);
    }

    static void margin() {
        EchoMargins x = new EchoMargins();
        x.days(2);
        x.write(3, 7, 77);
        due("11: row", x.margin(4, 7, 0), 3);
        due("11: cell", x.margin(4, 7, 1), 7);
        due("11: value", x.margin(4, 7, 2), 77);
        due("11: age", x.margin(4, 7, 3), 0);
        due("11: age of another", x.margin(4, 6, 3), 2);
        due("11: not faded", x.margin(4, 6, 4), 0);
        x.set(1, 1);
        due("11: faded", x.margin(4, 6, 4), 1);
        due("11: faded, value", x.margin(4, 6, 2), 0);
        due("11: rank 8", x.margin(4, 8, 0), NOT_FOUND);
        due("11: far rank", x.margin(4, Integer.MAX_VALUE, 0), NOT_FOUND);
        due("11: rank -1", x.margin(4, -1, 0), INVALID);
        due("11: row -1", x.margin(-1, 0, 0), INVALID);
        due("11: row 5", x.margin(5, 0, 0), INVALID);
        due("11: what -1", x.margin(4, 0, -1), INVALID);
        due("11: what 5", x.margin(4, 0, 5), INVALID);
        due("11: what 5, rank 8", x.margin(4, 8, 5), INVALID);
        x.lose(4);
        due("11: lost", x.margin(4, 0, 0), NOT_FOUND);
    }

    static void row() {
        EchoMargins x = new EchoMargins();
        due("12: upper of 0", x.row(0, 2), 4);
        due("12: lower of 4", x.row(4, 3), 0);
        x.swap(0, 2);
        due("12: place", x.row(0, 0), 2);
        due("12: upper", x.row(0, 2), 1);
        due("12: lower", x.row(0, 3), 3);
        due("12: comes back", x.row(0, 7), 0);
        x.lay(0);
        due("12: comes back now", x.row(0, 7), 8);
        due("12: crowded out", x.row(1, 9), 4);
        x.lose(0);
        due("12: lives", x.row(0, 1), 0);
        due("12: lost, echoes", x.row(0, 4), 0);
        due("12: lost, unknown", x.row(0, 5), 8);
        due("12: lost, wrong", x.row(0, 6), 0);
        due("12: lost, as they were", x.row(0, 7), 8);
        due("12: times", x.row(0, 8), 1);
        due("12: lost, place", x.row(0, 0), 2);
        due("12: a lost row is a neighbour", x.row(1, 3), 0);
        x.lose(1);
        due("12: lost, crowded out", x.row(1, 9), 4);
        due("12: lost, neighbour lost", x.row(0, 7), 4);
        due("12: row -1", x.row(-1, 0), INVALID);
        due("12: row 5", x.row(5, 0), INVALID);
        due("12: what -1", x.row(0, -1), INVALID);
        due("12: what 10", x.row(0, 10), INVALID);
    }

    static void at() {
        EchoMargins x = new EchoMargins();
        x.swap(1, 4);
        due("13: at(0)", x.at(0), 0);
        due("13: at(1)", x.at(1), 4);
        due("13: at(4)", x.at(4), 1);
        due("13: at(5)", x.at(5), INVALID);
        due("13: at(-1)", x.at(-1), INVALID);
        x.lose(4);
        due("13: a lost row", x.at(1), 4);
    }

    static void would() {
        EchoMargins x = new EchoMargins();
        x.set(0, 16);
        x.swap(1, 3);
        x.write(1, 0, 10);
        x.swap(1, 3);
        x.days(2);
        x.write(1, 2, 12);
        due("14: it lives", x.would(1, 0), NOT_POSSIBLE);
        x.lose(1);
        due("14: as they were", x.would(1, 0), 7);
        due("14: wrong", x.would(1, 1), 1);
        due("14: unknown", x.would(1, 2), 0);
        due("14: greatest age", x.would(1, 3), 2);
        x.lose(2);
        due("14: as they were, neighbour lost", x.would(1, 0), 3);
        due("14: unknown, neighbour lost", x.would(1, 2), 4);
        x.lose(0);
        due("14: none as it was", x.would(1, 0), 0);
        due("14: all unknown", x.would(1, 2), 8);
        due("14: no echo is used", x.would(1, 3), NOT_FOUND);
        due("14: what -1", x.would(1, -1), INVALID);
        due("14: what 4", x.would(1, 4), INVALID);
        due("14: what 4 of one that lives", x.would(3, 4), INVALID);
        due("14: row -1", x.would(-1, 0), INVALID);
        due("14: row 5", x.would(5, 0), INVALID);
        due("14: nothing is changed", x.count(14), 4);
    }

    static void order() {
        EchoMargins x = new EchoMargins();
        due("15: none lost", x.order(0), NOT_FOUND);
        due("15: rank -1", x.order(-1), INVALID);
        due("16: none lost", x.comes(), 0);
        x.begin(9);
        x.lose(6);
        x.lose(2);
        x.lose(4);
        due("15: alike: by number", x.order(0), 2);
        due("15: alike: by number", x.order(1), 4);
        due("15: alike: by number", x.order(2), 6);
        due("15: no fourth", x.order(3), NOT_FOUND);
        due("15: far rank", x.order(Integer.MAX_VALUE), NOT_FOUND);
        due("16: all come back", x.comes(), 24);
        x.lose(8);
        due("15: four", x.order(3), 8);
        x.lose(0);
        due("15: five", x.order(0), LIMIT);
        due("16: five", x.comes(), LIMIT);
        due("15: five, rank -1", x.order(-1), INVALID);
        due("15: nothing is mended", x.count(2), 170);
    }

    /** Mending the row 0 lays the row 1 anew, which crowds out what the row 3 needs. */
    static void orderOfFullMargins() {
        EchoMargins x = new EchoMargins();
        x.begin(9);
        x.set(0, 4);
        x.lay(0);
        x.lay(3);
        x.lay(2);
        x.lose(0);
        due("15: alone", x.order(0), 0);
        due("16: alone", x.comes(), 4);
        x.lose(3);
        due("15: the row 0 now", x.row(0, 7), 4);
        due("15: the row 3 now", x.row(3, 7), 8);
        due("15: the row 3 first", x.order(0), 3);
        due("15: the row 0 then", x.order(1), 0);
        due("16: together", x.comes(), 12);
        x.mend(0);
        due("15: one is left", x.order(0), 3);
        due("16: one is left", x.comes(), 4);
    }

    /** Either order brings 12 of the 16 cells that would come back one by one. */
    static void orderOfTwoAlike() {
        EchoMargins x = new EchoMargins();
        x.begin(9);
        x.set(0, 4);
        x.lay(0);
        x.lay(3);
        x.lose(3);
        x.lose(0);
        due("15: each row alone", x.row(0, 7) + x.row(3, 7), 16);
        due("15: the first order of two", x.order(0), 0);
        due("15: the first order of two", x.order(1), 3);
        due("16: in either order", x.comes(), 12);
    }

    static void safeFor() {
        EchoMargins x = new EchoMargins();
        due("17: at first", x.safeFor(), 21);
        x.days(20);
        due("17: the last day", x.safeFor(), 1);
        x.days(1);
        due("17: none is safe", x.safeFor(), NOT_FOUND);
        x.lay(2);
        due("17: one is", x.safeFor(), 21);
        x.days(2);
        x.write(2, 0, 5);
        due("17: its oldest echo", x.safeFor(), 19);
        x.set(1, 5);
        due("17: by the setting", x.safeFor(), 4);
        x.lay(3);
        due("17: the first row", x.safeFor(), 4);
        x.lose(0);
        x.lose(1);
        due("17: the row 3 alone", x.safeFor(), 6);
        x.begin(3);
        x.lose(0);
        x.lose(1);
        x.lose(2);
        due("17: all lost", x.safeFor(), NOT_FOUND);
        x.mend(0);
        due("17: only unknown cells", x.count(3), 1);
        due("17: only unknown cells", x.safeFor(), NOT_FOUND);
    }

    static void floats() {
        EchoMargins x = new EchoMargins();
        due("18: at first", x.mean(), Float.floatToIntBits(0f));
        due("19: at first", x.share(), Float.floatToIntBits(1f));
        x.days(7);
        due("18: seven", x.mean(), Float.floatToIntBits(7f));
        x.lay(0);
        due("18: eight laid anew", x.mean(), Float.floatToIntBits(224f / 40f));
        x.write(2, 0, 9);
        x.days(12);
        due("18: one more", x.mean(), Float.floatToIntBits((9f * 12f + 31f * 19f) / 40f));
        x.days(2);
        due("18: without faded ones", x.mean(), Float.floatToIntBits(14f));
        x.days(20);
        due("18: none", x.mean(), NOT_FOUND);
        due("19: none comes back", x.share(), 0);
        x.begin(3);
        x.swap(0, 1);
        x.write(0, 0, 5);
        due("19: one", x.share(), Float.floatToIntBits(1f / 24f));
        x.lay(0);
        due("19: eight, but what they crowded out", x.share(), Float.floatToIntBits(8f / 24f));
        x.begin(7);
        x.lose(3);
        due("19: six rows live", x.share(), Float.floatToIntBits(40f / 48f));
        x.begin(3);
        x.lose(0);
        x.lose(1);
        due("19: one lives", x.share(), 0);
        x.lose(2);
        due("19: none lives", x.share(), NOT_FOUND);
        due("18: none lives", x.mean(), NOT_FOUND);
    }

    static void count() {
        EchoMargins x = new EchoMargins();
        x.set(0, 16);
        x.days(1);
        x.swap(1, 3);
        x.write(1, 0, 10);
        x.swap(1, 3);
        due("20: safe", x.count(3), 29);
        x.lose(1);
        due("20: living", x.count(2), 29);
        due("20: safe beside a lost one", x.count(3), 24);
        due("20: echoes", x.count(4), 33);
        x.mend(1);
        due("20: unknown", x.count(6), 0);
        due("20: wrong", x.count(7), 1);
        due("20: writings", x.count(8), 1);
        due("20: lost", x.count(9), 1);
        due("20: mended", x.count(10), 1);
        due("20: came back", x.count(11), 7);
        due("20: came wrong", x.count(12), 1);
        due("20: laid", x.count(13), 25);
        due("20: states", x.count(14), 4);
        x.set(1, 1);
        x.days(1);
        // Of the first 40 echoes 8 went with the row 1, and 16 were laid anew.
        due("20: faded", x.count(5), 16);
        x.lose(0);
        x.lose(1);
        x.mend(1);
        due("20: unknown", x.count(6), 4);
        due("20: unknown ones are not asked", x.count(3) & 2, 2);
        x.type(' ');
        due("20: length", x.count(15), 1);
        due("20: rows", x.count(0), 5);
        due("20: day", x.count(1), 2);
        due("20: setting 0", x.count(20), 16);
        due("20: setting 1", x.count(21), 1);
        for (int what : new int[] {-1, 16, 17, 18, 19, 22, Integer.MAX_VALUE, Integer.MIN_VALUE}) {
            due("20: count " + what, x.count(what), INVALID);
        }
    }

    static void countOfEdges() {
        EchoMargins x = new EchoMargins();
        x.set(0, 16);
        for (int row = 0; row <= 4; row += 4) {
            x.swap(row, 2);
            x.write(row, 0, 4);
            x.write(row, 7, 4);
            x.swap(row, 2);
            x.lose(row);
            due("20: all but the first and the last cell", x.mend(row), 6);
            due("20: those are wrong", x.row(row, 6), 2);
        }
        due("20: wrong ones of the first and the last row", x.count(7), 4);
        due("20: came wrong", x.count(12), 4);
        x.lose(0);
        due("20: wrong ones of rows that live", x.count(7), 2);
        x.lose(1);
        x.mend(0);
        due("20: odd cells of the first row are unknown", x.count(6), 4);
        x.lose(4);
        due("20: unknown cells of rows that live", x.count(6), 4);
    }

    static void undo() {
        EchoMargins x = new EchoMargins();
        due("21: empty", x.undo(), NOT_POSSIBLE);
        x.begin(4);
        x.write(1, 0, 10);
        x.days(2);
        x.set(0, 4);
        x.set(1, 3);
        x.swap(0, 1);
        due("21: at most four", x.count(14), 4);
        x.lose(9);
        due("21: errors are no changes", x.count(14), 4);
        x.type('x');
        due("21: swap", x.undo(), 3);
        due("21: place", x.at(0), 0);
        due("21: set", x.undo(), 2);
        due("21: setting 1", x.count(21), 20);
        due("21: set", x.undo(), 1);
        due("21: echoes", x.count(4), 32);
        due("21: days", x.undo(), 0);
        due("21: day", x.count(1), 0);
        due("21: written", x.cell(1, 0, 0), 10);
        due("21: writings", x.count(8), 1);
        due("21: the oldest one was dropped", x.undo(), NOT_POSSIBLE);
        due("21: the text stays", x.count(15), 1);
        x.lose(2);
        x.mend(2);
        x.undo();
        due("21: lost again", x.would(2, 0), 8);
        x.undo();
        due("21: lives again", x.row(2, 8), 0);
        x.begin(9);
        x.undo();
        due("21: four rows again", x.count(0), 4);
        for (int i = 0; i < 23; i++) {
            x.write(0, 0, i);
        }
        x.undo();
        x.undo();
        x.undo();
        due("21: long after", x.undo(), 0);
        due("21: four writings ago", x.cell(0, 0, 0), 18);
    }

    /** The state before each kind of change is the one that the change found. */
    static void undoOfEach() {
        for (int kind = 0; kind < 9; kind++) {
            EchoMargins x = new EchoMargins();
            x.lose(4);
            x.write(1, 1, 5);
            x.write(1, 1, 6);
            int[] before = view(x);
            int answer = changeOf(x, kind);
            due("21: a change, kind " + kind, answer < 0 ? answer : 0, 0);
            due("21: states, kind " + kind, x.count(14), 4);
            due("21: undo, kind " + kind, x.undo(), 3);
            int[] after = view(x);
            for (int i = 0; i < before.length; i++) {
                due("21: number " + i + " of the state, kind " + kind, after[i], before[i]);
            }
        }
    }

    static int changeOf(EchoMargins x, int kind) {
        switch (kind) {
            case 0: return x.begin(3);
            case 1: return x.write(1, 1, 7);
            case 2: return x.lose(1);
            case 3: return x.mend(4);
            case 4: return x.swap(0, 1);
            case 5: return x.lay(2);
            case 6: return x.days(30);
            case 7: return x.set(0, 2);
            default: return x.play();
        }
    }

    static int[] view(EchoMargins x) {
        int[] seen = new int[60];
        int many = 0;
        for (int what = 0; what <= 13; what++) {
            seen[many++] = x.count(what);
        }
        for (int row = 0; row < 3; row++) {
            for (int what = 0; what <= 9; what++) {
                seen[many++] = x.row(row, what);
            }
        }
        seen[many++] = x.count(20);
        seen[many++] = x.cell(1, 1, 0);
        seen[many++] = x.cell(1, 1, 2);
        seen[many++] = x.margin(2, 7, 2);
        seen[many++] = x.mean();
        seen[many++] = x.share();
        return seen;
    }

    static void typing() {
        EchoMargins x = new EchoMargins();
        due("22: 31", x.type(31), INVALID);
        due("22: 127", x.type(127), INVALID);
        due("22: 32", x.type(32), 1);
        due("22: 126", x.type(126), 2);
        due("23: two", x.clearText(), 2);
        due("23: none", x.clearText(), 0);
        for (int i = 1; i <= 60; i++) {
            due("22: " + i, x.type('d'), i);
        }
        due("22: full", x.type('d'), LIMIT);
        due("22: full, wrong sign", x.type(127), INVALID);
        due("22: no change", x.count(14), 0);
        due("23: sixty", x.clearText(), 60);
        due("23: count(15)", x.count(15), 0);
    }

    static void breaksOff(String text, int position, int cause) {
        EchoMargins x = new EchoMargins();
        type(x, text);
        due("24: position of " + text, x.fault(0), position);
        due("24: reason of " + text, x.fault(1), 1);
        due("24: cause of " + text, x.fault(2), cause);
        due("25: " + text, x.play(), NOT_POSSIBLE);
        due("25: no change", x.count(14), 0);
    }

    static void notPossible(String text, int position, int cause) {
        EchoMargins x = new EchoMargins();
        type(x, text);
        due("24: position of " + text, x.fault(0), position);
        due("24: reason of " + text, x.fault(1), 2);
        due("24: cause of " + text, x.fault(2), cause);
        due("25: " + text, x.play(), NOT_POSSIBLE);
        due("25: nothing is done", x.count(2), 31);
    }

    static void fault() {
        EchoMargins x = new EchoMargins();
        due("24: empty", x.fault(0), NOT_FOUND);
        due("24: what -1", x.fault(-1), INVALID);
        due("24: what 3", x.fault(3), INVALID);
        type(x, "l001;m1;");
        due("24: no fault", x.fault(1), NOT_FOUND);
        due("24: nothing is done", x.count(9), 0);
        breaksOff("x", 0, 0);
        breaksOff(" l1;", 0, 0);
        breaksOff("L1;", 0, 0);
        breaksOff("l1; m1;", 3, 0);
        breaksOff("l1;;", 3, 0);
        breaksOff("l", 0, 1);
        breaksOff("l;", 0, 1);
        breaksOff("l1", 0, 2);
        breaksOff("l1,", 0, 2);
        breaksOff("l0001;", 0, 4);
        breaksOff("l-1;", 0, 1);
        breaksOff("l1;w0,0", 3, 4);
        breaksOff("w0;", 0, 2);
        breaksOff("w,0,0;", 0, 1);
        breaksOff("w0,0;", 0, 4);
        breaksOff("w0,,0;", 0, 3);
        breaksOff("w0,0,1000;", 0, 8);
        breaksOff("w0,0,0,", 0, 6);
        breaksOff("s0;", 0, 2);
        breaksOff("s0,1,2;", 0, 4);
        breaksOff("s0, 1;", 0, 3);
        breaksOff("d5", 0, 2);
        breaksOff("a1;a2,3;", 3, 2);
        // Nine orders are the most that this text of 60 characters can have, and the last one ends too early.
        breaksOff("w0,0,0;w0,0,0;w0,0,0;w0,0,0;w0,0,0;w0,0,0;w0,0,0;w0,0,0;w0,0", 56, 4);
        notPossible("l5;", 0, INVALID);
        notPossible("w0,8,0;", 0, INVALID);
        notPossible("l1;l1;", 3, NOT_POSSIBLE);
        notPossible("l1;w1,0,0;x", 3, NOT_POSSIBLE);
        notPossible("m0;", 0, NOT_POSSIBLE);
        notPossible("s2,2;", 0, INVALID);
        notPossible("l2;a2;", 3, NOT_POSSIBLE);
        notPossible("d0;", 0, INVALID);
        notPossible("d99;d100;", 4, INVALID);
    }

    static void play() {
        EchoMargins x = new EchoMargins();
        due("25: none", x.play(), 0);
        due("25: one change all the same", x.count(14), 1);
        type(x, "w1,0,7;w001,01,999;l1;m1;s0,4;a0;d05;d1;");
        due("25: eight", x.play(), 8);
        due("25: one change", x.count(14), 2);
        due("25: written", x.cell(1, 0, 0), 7);
        due("25: written", x.cell(1, 1, 0), 999);
        due("25: mended", x.count(10), 1);
        due("25: swapped", x.row(0, 0), 4);
        due("25: laid: 2, 24 and 8", x.count(13), 34);
        due("25: day", x.count(1), 6);
        due("25: the text stays", x.count(15), 40);
        due("25: again", x.play(), 8);
        due("25: day", x.count(1), 12);
        due("25: undone", x.undo(), 2);
        due("25: day", x.count(1), 6);
        due("25: undone", x.undo(), 1);
        due("25: all is as it was", x.cell(1, 1, 0), 0);
        due("25: day", x.count(1), 0);
        x.clearText();
        type(x, "l0;w1,0,5;w1,2,5;l4;a1;m4;");
        due("25: calls that answer 0 are no faults", x.play(), 6);
        due("25: written", x.cell(1, 2, 0), 5);
        due("25: nothing was laid of these", x.count(13), 16);
    }

    public static void main(String[] args) {
        newObject();
        begin();
        write();
        lose();
        mend();
        mendWrong();
        mendUnknown();
        swap();
        lay();
        days();
        set();
        cell();
        margin();
        row();
        at();
        would();
        order();
        orderOfFullMargins();
        orderOfTwoAlike();
        safeFor();
        floats();
        count();
        countOfEdges();
        undo();
        undoOfEach();
        typing();
        fault();
        play();
        System.out.println(wrong == 0 ? "all promises hold" : wrong + " answers are not as due");
        if (wrong != 0) {
            System.exit(1);
        }
    }
}
