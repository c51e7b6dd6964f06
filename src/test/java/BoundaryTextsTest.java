/** The boundary cases that the promises 21 to 25 name, a test for each sentence. */
public final class BoundaryTextsTest extends Boundary {

    private static final String FULL = "a0;a1;a2;a3;a4;a0;a1;a2;a3;a4;a0;a1;a2;a3;a4;a0;a1;a2;a3;a4;";

    // ---- Promise 21

    @Sentence(promise = 21, says = "Restores the latest state of the history, which is removed from it.")
    static void theLatestState() {
        EchoMargins x = new EchoMargins();
        for (int i = 1; i <= 6; i++) {
            x.write(3, 3, i);
        }
        for (int i = 5; i >= 2; i--) {
            x.undo();
            due("the state before", x.cell(3, 3, 0), i);
            due("writings", x.count(8), i);
        }
        x.write(3, 3, 50);
        x.write(3, 3, 51);
        x.undo();
        due("the latest one", x.cell(3, 3, 0), 50);
        x.undo();
        due("not one that was removed", x.cell(3, 3, 0), 2);
        due("not one that was removed", x.undo(), NOT_POSSIBLE);
    }

    @Sentence(promise = 21, says = "Returns the number of states that are left in the history")
    static void statesThatAreLeft() {
        for (int many = 1; many <= 6; many++) {
            EchoMargins x = new EchoMargins();
            for (int i = 0; i < many; i++) {
                x.play();
            }
            for (int left = Math.min(many, 4) - 1; left >= 0; left--) {
                due("undo after " + many, x.undo(), left);
                due("count(14)", x.count(14), left);
            }
        }
    }

    @Sentence(promise = 21, says = "NOT_POSSIBLE if it is empty.")
    static void anEmptyHistory() {
        EchoMargins x = new EchoMargins();
        due("at first", x.undo(), NOT_POSSIBLE);
        due("again", x.undo(), NOT_POSSIBLE);
        x.begin(2);
        x.mend(0);
        x.type('a');
        x.play();
        due("after errors alone", x.undo(), NOT_POSSIBLE);
        x.days(1);
        due("after a change", x.undo(), 0);
        due("and no more", x.undo(), NOT_POSSIBLE);
        due("the day", x.count(1), 0);
    }

    // ---- Promise 22

    @Sentence(promise = 22, says = "- `character`: 32 to 126")
    static void charactersThatAreTyped() {
        EchoMargins x = new EchoMargins();
        for (int character = 32; character <= 126; character++) {
            due("type " + character, x.type(character), (character - 32) % 60 + 1);
            if (character == 91) {
                due("cleared", x.clearText(), 60);
            }
        }
    }

    @Sentence(promise = 22, says = "Returns the length of the text; INVALID_ARGUMENT if character is out of range")
    static void charactersOutOfRange() {
        EchoMargins x = new EchoMargins();
        refused("type", 32, 126, x::type);
        due("a tabulator", x.type(9), INVALID);
        due("the sign 0", x.type(0), INVALID);
        due("w and a high bit", x.type('w' + 128), INVALID);
        due("w and a high bit", x.type('w' + 65536), INVALID);
        due("length", x.count(15), 0);
        due("the first one", x.type('w'), 1);
    }

    @Sentence(promise = 22, says = "LIMIT_REACHED if it has 60 characters.")
    static void aFullText() {
        EchoMargins x = new EchoMargins();
        type(x, FULL.substring(0, 59));
        due("the last one", x.type(';'), 60);
        due("one more", x.type(';'), LIMIT);
        due("and again", x.type(';'), LIMIT);
        due("length", x.count(15), 60);
        due("orders", x.play(), 20);
        x.clearText();
        due("cleared", x.type(';'), 1);
    }

    // ---- Promise 23

    @Sentence(promise = 23, says = "Empties the text.")
    static void anEmptiedText() {
        EchoMargins x = typed("l1;x");
        x.clearText();
        due("length", x.count(15), 0);
        due("no fault", x.fault(0), NOT_FOUND);
        due("no orders", x.play(), 0);
        type(x, "d5;");
        due("nothing of the old one is left", x.play(), 1);
        due("the day", x.count(1), 5);
        due("living", x.count(2), 31);
    }

    @Sentence(promise = 23, says = "Returns the length it had.")
    static void theLengthItHad() {
        for (int length = 0; length <= 60; length++) {
            EchoMargins x = typed(FULL.substring(0, length));
            due("had", x.clearText(), length);
            due("has", x.clearText(), 0);
        }
        EchoMargins x = typed(FULL + "a5;");
        due("had, without those that were refused", x.clearText(), 60);
        due("no change", x.count(14), 0);
    }

    // ---- Promise 24

    @Sentence(promise = 24, says = "- `what`: 0: its position; 1: its reason; 2: its cause")
    static void whatOfAFault() {
        EchoMargins x = typed("d1;d2;m4;");
        due("position", x.fault(0), 6);
        due("reason", x.fault(1), 2);
        due("cause", x.fault(2), NOT_POSSIBLE);
        due("the day", x.count(1), 0);
        due("no change", x.count(14), 0);
    }

    @Sentence(promise = 24, says = "INVALID_ARGUMENT if what is out of range")
    static void whatOfFaultOutOfRange() {
        EchoMargins x = new EchoMargins();
        refused("fault of an empty text", 0, 2, x::fault);
        type(x, "d1;");
        refused("fault of a text that has none", 0, 2, x::fault);
        type(x, "d");
        refused("fault of a text that has one", 0, 2, x::fault);
    }

    @Sentence(promise = 24, says = "NOT_FOUND if the text has no fault (also if it is empty).")
    static void noFault() {
        EchoMargins x = new EchoMargins();
        for (int what = 0; what <= 2; what++) {
            due("empty", x.fault(what), NOT_FOUND);
        }
        x.type('x');
        due("a fault", x.fault(1), 1);
        x.clearText();
        for (int what = 0; what <= 2; what++) {
            due("empty again", x.fault(what), NOT_FOUND);
        }
        type(x, FULL);
        for (int what = 0; what <= 2; what++) {
            due("full", x.fault(what), NOT_FOUND);
        }
        x.lose(4);
        due("not possible now", x.fault(0), 12);
        x.mend(4);
        due("possible again", x.fault(0), NOT_FOUND);
    }

    @Sentence(promise = 24, says = "Tells about the fault of the text.")
    static void faultsOfEachOrder() {
        String[] first = {"w0,0,999;", "w4,7,0;", "l4;", "s0,4;", "a4;", "d99;", "d1;"};
        String[] invalid = {"w0,0,1000;", "w4,8,0;", "l5;", "s0,5;", "a5;", "d100;", "d0;"};
        for (int i = 0; i < first.length; i++) {
            due("in its range: " + first[i], typed(first[i]).fault(0), NOT_FOUND);
            EchoMargins x = typed(invalid[i]);
            due("out of range: " + invalid[i], x.fault(0), 0);
            due("reason of " + invalid[i], x.fault(1), i == 0 ? 1 : 2);
            due("cause of " + invalid[i], x.fault(2), i == 0 ? 8 : INVALID);
        }
        due("w, no such row", typed("w5,0,0;").fault(2), INVALID);
        due("m, no such row", typed("m5;").fault(2), INVALID);
        due("s, no such one", typed("s5,0;").fault(2), INVALID);
        due("s, far beyond", typed("s0,999;").fault(2), INVALID);
        due("m, lives again", typed("l1;m1;m1;").fault(0), 6);
        due("s, lost", typed("l4;s4,0;").fault(2), NOT_POSSIBLE);
    }

    // ---- Promise 25

    @Sentence(promise = 25, says = "Does all orders of the text, which stays.")
    static void allOrdersAreDone() {
        EchoMargins x = typed("w0,7,999;w4,7,1;l0;m0;s0,4;a2;d99;d1;");
        due("orders", x.play(), 8);
        due("writings", x.count(8), 2);
        due("lost", x.count(9), 1);
        due("mended", x.count(10), 1);
        due("came back", x.count(11), 8);
        due("swapped", x.at(0), 4);
        due("laid: 2, 24 and 8", x.count(13), 34);
        due("the day", x.count(1), 100);
        due("the text", x.count(15), 37);
        due("again", x.play(), 8);
        due("the day", x.count(1), 200);
    }

    @Sentence(promise = 25, says = "They are one change, also if there are none.")
    static void oneChange() {
        EchoMargins x = new EchoMargins();
        due("none", x.play(), 0);
        due("one change", x.count(14), 1);
        type(x, "d1;d2;d3;d4;d5;d6;");
        due("six", x.play(), 6);
        due("one change", x.count(14), 2);
        due("undone", x.undo(), 1);
        due("all six", x.count(1), 0);
        due("undone", x.undo(), 0);
        due("no more", x.undo(), NOT_POSSIBLE);
        for (int i = 0; i < 6; i++) {
            x.play();
        }
        due("states", x.count(14), 4);
        x.undo();
        due("the day", x.count(1), 21 * 5);
    }

    @Sentence(promise = 25, says = "Returns how many there are in it")
    static void howManyOrders() {
        for (int many = 0; many <= 20; many++) {
            due("orders", typed(FULL.substring(0, 3 * many)).play(), many);
        }
        due("of the longest ones", typed("w000,000,000;w001,001,001;w002,002,002;w003,003,003;").play(), 4);
    }

    @Sentence(promise = 25, says = "NOT_POSSIBLE if it has a fault.")
    static void faultsOfPlay() {
        for (String text : new String[] {"x", "d1", "d1;x", "d1;l5;", "d1;l1;l1;", FULL.substring(0, 59), "d1; "}) {
            EchoMargins x = typed(text);
            due("play of " + text, x.play(), NOT_POSSIBLE);
            due("the day after " + text, x.count(1), 0);
            due("living after " + text, x.count(2), 31);
            due("states after " + text, x.count(14), 0);
        }
        EchoMargins x = typed("d99;");
        for (int day = 99; day <= 9900; day += 99) {
            x.days(99);
        }
        due("up to the last day", x.play(), 1);
        due("beyond it", x.play(), NOT_POSSIBLE);
        due("its cause", x.fault(2), LIMIT);
        due("the day", x.count(1), 9999);
    }

    public static void main(String[] args) throws Exception {
        runAll(BoundaryTextsTest.class);
    }
}
