/** One method a promise: ordinary inputs, the edges that the document names, wrong inputs, all worked out by hand. */
public final class PromiseTest {
    private static final int MIN = Integer.MIN_VALUE;
    private static final int MAX = Integer.MAX_VALUE;

    // Values 4 9 4 2 9 4 7 2 2 at places 0 to 8; 4 and 2 stand three times, 9 twice, 7 once.
    private static final String ROW = "row 4 9 4 2 9 4 7 2 2;weight 1 5;weight 3 3;block 3;";

    private final Check check = new Check();

    public static void main(String[] args) {
        PromiseTest test = new PromiseTest();
        test.madeAndTold();
        test.edited();
        test.inOneSpan();
        test.overSpans();
        test.ofTheWholeRow();
        test.noSuchSpans();
        test.check.end("PromiseTest");
    }

    private void madeAndTold() {
        promise1();
        promise2();
        promise3();
        promise3Lines();
        promise4();
        promise4Order();
        promise5();
    }

    private void edited() {
        promise6();
        promise7();
        promise8();
        promise9();
        promise10();
        promise11();
        promise12();
        promise13();
        promise14();
        promise15();
        promise16();
        promise16Shrunk();
        promise17();
        promise18();
        promise52();
    }

    private void inOneSpan() {
        promise19();
        promise20();
        promise21();
        promise22();
        promise23();
        promise24();
        promise25();
        promise26();
        promise27();
        promise28();
        promise29();
        promise30();
        promise31();
        promise32();
    }

    private void overSpans() {
        promise33();
        promise39();
        promise40();
        promise41();
        promise42();
        promise43();
        promise44();
        promise45();
        promise46();
        promise47();
        promise48();
        promise49();
    }

    private void ofTheWholeRow() {
        promise34();
        promise35();
        promise36();
        promise37();
        promise38();
        promise50();
        promise51();
        promise53();
        promise54();
        promise55();
        promise56();
    }

    private void due(String call, int got, int want) {
        check.due(call, got, want);
    }

    private void row(ModeDesk x, int... values) {
        due("count(0)", x.count(0), values.length);
        for (int p = 0; p < values.length; p++) {
            due("place(" + p + ", 0)", Told.place(x, p, 0), values[p]);
        }
    }

    private void weights(ModeDesk x, int... weights) {
        for (int p = 0; p < weights.length; p++) {
            due("place(" + p + ", 1)", Told.place(x, p, 1), weights[p]);
        }
    }

    private static ModeDesk ties(String name) {
        // 8 stands at 0 and 5, 1 at 1 and 4, 6 at 2 and 3, 3 at 6.
        return Told.desk("row 8 1 6 6 1 8 3;ties " + name + ";");
    }

    private static ModeDesk full() {
        ModeDesk x = new ModeDesk();
        for (int i = 0; i < 120; i++) {
            x.insert(i, i % 7);
        }
        return x;
    }

    // ---- a new object, the text, a place ----

    private void promise1() {
        int[] want = {0, 8, 0, 0, 0, 0, 0, 0, 0, -1};
        ModeDesk x = new ModeDesk();
        for (int what = 0; what < want.length; what++) {
            due("new: count(" + what + ")", x.count(what), want[what]);
        }
        due("new: refreshed()", x.refreshed(), -2);
        due("new: text(0)", x.text(0), 0);
        due("new: text(1)", x.text(1), -2);
        due("NONE", ModeDesk.NONE, -1);
        ModeDesk y = new ModeDesk();
        y.insert(0, 3);
        y.insert(1, 2);
        due("new: ties first", y.mode(0, 1, 0), 3);
    }

    private void promise2() {
        ModeDesk x = new ModeDesk();
        for (int i = 1; i <= 45; i++) {
            due("feed " + i, x.feed(0, 0, 0, 0, 0), 20 * i);
        }
        due("feed into a full tape", x.feed(0, 0, 0, 0, 0), -1);
        due("count(8)", x.count(8), 900);
        due("text of zeros", x.text(900), -1);
        due("fault(0)", x.fault(0), 1);
        due("fault(1)", x.fault(1), 0);
        due("feed after", x.feed(0x726F7720, 0x373B2020, 0x20202020, 0x0A0A0A0A, 0x726F7720), 20);
        due("text(6)", x.text(6), 1);
        row(x, 7);
        // Bytes above 127 are no tokens, and no sign of theirs may spread over the others.
        x.feed(0xFFF0F0F0, 0, 0, 0, 0);
        due("text(1)", x.text(1), -1);
        due("fault(1)", x.fault(1), 0);
        x.feed(0x726F7780, 0, 0, 0, 0);
        due("text(4)", x.text(4), -1);
        due("fault(1)", x.fault(1), 3);
    }

    private void promise3() {
        ModeDesk x = Told.desk(ROW);
        row(x, 4, 9, 4, 2, 9, 4, 7, 2, 2);
        weights(x, 1, 5, 1, 3, 1, 1, 1, 1, 1);
        due("count(4)", x.count(4), 4);
        due("count(8)", x.count(8), 0);
        x.set(0, 1);
        Told.feed(x, "row 1;");
        due("text(-1)", x.text(-1), -2);
        due("text(MIN)", x.text(MIN), -2);
        due("text(21)", x.text(21), -2);
        due("text(MAX)", x.text(MAX), -2);
        due("tape stays", x.count(8), 20);
        due("edits stay", x.count(6), 1);
        due("text(5)", x.text(5), -1);
        due("tape is empty", x.count(8), 0);
        due("edits stay", x.count(6), 1);
        due("refreshed() stays", x.refreshed(), 3);
        due("block stays", x.count(1), 3);
        due("lines stay", x.count(4), 4);
        row(x, 1, 9, 4, 2, 9, 4, 7, 2, 2);
        due("text of ties", Told.text(x, "ties most;"), 1);
        due("refreshed() anew", x.refreshed(), -2);
        due("undo() anew", x.undo(), -1);
        due("block anew", x.count(1), 8);
        due("ties told", x.count(3), 3);
        row(x);
        due("empty text", x.text(0), 0);
        due("ties anew", x.count(3), 0);
    }

    private void promise3Lines() {
        ModeDesk x = new ModeDesk();
        due("rows come behind", Told.text(x, "row 1 2;\nrow\n3 ; row 0 999 ;"), 3);
        row(x, 1, 2, 3, 0, 999);
        due("weights between rows", Told.text(x, "row 7;weight 0 9;row 8;weight 1 2;weight 0 4;"), 5);
        weights(x, 4, 2);
        due("the least weight", Told.text(x, "row 7;weight 0 9;weight 0 1;"), 3);
        weights(x, 1);
        due("naughts ahead", Told.text(x, "row 000999 0;weight 01 0000000000009;block 0020;"), 3);
        row(x, 999, 0);
        weights(x, 1, 9);
        due("block 20", x.count(1), 20);
        due("block 2", Told.text(x, "block 2;") * 100 + x.count(1), 102);
        due("signs stand close", Told.text(x, "row1 2;block3;"), 2);
        row(x, 1, 2);
        String[] names = {"first", "last", "least", "most"};
        for (int i = 0; i < 4; i++) {
            due("ties " + names[i], Told.text(x, "ties " + names[i] + ";") * 100 + x.count(3), 100 + i);
        }
        due("only blanks", Told.text(x, " \n "), 0);
        StringBuilder many = new StringBuilder("row");
        for (int i = 0; i < 120; i++) {
            many.append(" ").append(i);
        }
        due("120 values", Told.text(x, many + ";"), 1);
        due("120 places", x.count(0), 120);
        due("121 values", Told.text(x, many + " 5 ;"), -1);
        due("fault 2", x.fault(0), 2);
        due("at it", x.fault(1), many.length() + 1);
        due("121 values in two rows", Told.text(x, many + ";row 4;"), -1);
        due("fault 2", x.fault(0), 2);
        due("at it", x.fault(1), many.length() + 5);
        due("120 places stay", x.count(0), 120);
    }

    private void fault(String text, int fault, int place) {
        ModeDesk x = new ModeDesk();
        due("text <" + text + ">", Told.text(x, text), fault == 0 ? 1 : -1);
        due("fault(0) of <" + text + ">", x.fault(0), fault);
        due("fault(1) of <" + text + ">", x.fault(1), place);
    }

    private void promise4() {
        fault("row 1;", 0, -1);
        fault(";", 1, 0);
        fault("  ;", 1, 2);
        fault("5;", 1, 0);
        fault("rows 1;", 1, 0);
        fault("ro 1;", 1, 0);
        fault("rowz 1;", 1, 0);
        fault("rowa 1;", 1, 0);
        fault("row;", 1, 3);
        fault("row", 1, 3);
        fault("row  ", 1, 5);
        fault("row 1 2", 1, 7);
        fault("row 1 2\n", 1, 8);
        fault("row x;", 1, 4);
        fault("row 1 x;", 1, 6);
        fault("row 1 row 2;", 1, 6);
        fault("row -1;", 1, 4);
        fault("row 1\t2;", 1, 5);
        fault("row 1000;", 2, 4);
        fault("row 5 4294967297;", 2, 6);
        fault("row 1;weight 1 2;", 1, 13);
        fault("row 1;weight ;", 1, 13);
        fault("row 1;weight 0;", 1, 14);
        fault("row 1;weight 0 ", 1, 15);
        fault("row 1;weight 0 0;", 2, 15);
        fault("row 1;weight 0 10;", 2, 15);
        fault("row 1;weight 0 3 4;", 1, 17);
        fault("weight 0 3;row 1;", 1, 7);
        fault("row 1;weight 4294967296 3;", 1, 13);
        fault("block;", 1, 5);
        fault("block 1;", 2, 6);
        fault("block 21;", 2, 6);
        fault("block 3 4;", 1, 8);
        fault("block 3;block 3;", 3, 8);
        fault("ties;", 1, 4);
        fault("ties row;", 1, 5);
        fault("ties 1;", 1, 5);
        fault("ties first first;", 1, 11);
        fault("ties first;ties;", 3, 11);
        fault("Row 1;", 1, 0);
    }

    private void promise4Order() {
        fault("row 1000 x;", 2, 4);
        fault("row x 1000;", 1, 4);
        fault("block 3;block 99 x", 3, 8);
        fault("row 1;;", 1, 6);
        fault("row 1;weight 5 99;", 1, 13);
        cut("row 12;", 5, 5);
        cut("rowx 1;", 3, 3);
        cut("row 1 ;", 6, 6);
        ModeDesk x = new ModeDesk();
        due("fault(0) ahead of any", x.fault(0), 0);
        due("fault(1) ahead of any", x.fault(1), -1);
        Told.text(x, "block 1;");
        due("text(1)", x.text(1), -2);
        due("fault(0) after a -2", x.fault(0), 2);
        due("fault(1) after a -2", x.fault(1), 6);
        due("fault(2)", x.fault(2), -1);
        due("fault(-1)", x.fault(-1), -1);
        Told.text(x, "block 4;");
        due("fault(0) after a good one", x.fault(0), 0);
        due("fault(1) after a good one", x.fault(1), -1);
    }

    private void cut(String text, int n, int place) {
        ModeDesk x = new ModeDesk();
        Told.feed(x, text);
        due("text(" + n + ") of <" + text + ">", x.text(n), -1);
        due("fault(0) of it", x.fault(0), 1);
        due("fault(1) of it", x.fault(1), place);
    }

    private void promise5() {
        ModeDesk x = Told.desk(ROW);
        int[][] want = {{0, 4, 1, 0, 0, 2, -2}, {1, 9, 5, 0, 0, 4, -2}, {2, 4, 1, 0, 1, 5, 0}, {3, 2, 3, 1, 0, 7, -2},
            {5, 4, 1, 1, 2, -2, 2}, {6, 7, 1, 2, 0, -2, -2}, {8, 2, 1, 2, 2, -2, 7}};
        for (int[] w : want) {
            for (int what = 0; what < 6; what++) {
                due("place(" + w[0] + ", " + what + ")", Told.place(x, w[0], what), w[what + 1]);
            }
        }
        ModeDesk y = Told.desk("row 3 3;");
        due("place(0, 4) of neighbours", Told.place(y, 0, 4), 1);
        due("place(1, 5) of neighbours", Told.place(y, 1, 5), 0);
        due("place(-1, 0)", Told.place(x, -1, 0), Told.OUT_OF_BOUNDS);
        due("place(9, 0)", Told.place(x, 9, 0), Told.OUT_OF_BOUNDS);
        due("place(MAX, 9)", Told.place(x, MAX, 9), Told.OUT_OF_BOUNDS);
        due("place(MIN, -1)", Told.place(x, MIN, -1), Told.OUT_OF_BOUNDS);
        due("place(8, 6)", Told.place(x, 8, 6), Told.NO_SUCH_ELEMENT);
        due("place(0, -1)", Told.place(x, 0, -1), Told.NO_SUCH_ELEMENT);
        due("empty: place(0, 7)", Told.place(new ModeDesk(), 0, 7), Told.OUT_OF_BOUNDS);
    }

    // ---- edits ----

    private void promise6() {
        ModeDesk x = Told.desk("row 5 6;weight 1 7;");
        due("set(1, 999)", x.set(1, 999), 6);
        due("set(0, 0)", x.set(0, 0), 5);
        row(x, 0, 999);
        weights(x, 1, 7);
        due("set(0, 0) again", x.set(0, 0), 0);
        due("no edit", x.count(6), 2);
        due("set(2, 1)", x.set(2, 1), -1);
        due("set(-1, 1)", x.set(-1, 1), -1);
        due("set(0, 1000)", x.set(0, 1000), -1);
        due("set(0, -1)", x.set(0, -1), -1);
        row(x, 0, 999);
        due("no edit", x.count(6), 2);
    }

    private void promise7() {
        ModeDesk x = Told.desk("row 5 6;weight 1 7;");
        due("weigh(1, 9)", x.weigh(1, 9), 7);
        due("weigh(0, 2)", x.weigh(0, 2), 1);
        due("weigh(0, 1)", x.weigh(0, 1), 2);
        weights(x, 1, 9);
        row(x, 5, 6);
        due("three edits", x.count(6), 3);
        due("weigh(0, 1) again", x.weigh(0, 1), 1);
        due("no edit", x.count(6), 3);
        due("weigh(0, 0)", x.weigh(0, 0), -1);
        due("weigh(0, 10)", x.weigh(0, 10), -1);
        due("weigh(2, 1)", x.weigh(2, 1), -1);
        due("weigh(-1, 1)", x.weigh(-1, 1), -1);
    }

    private void promise8() {
        ModeDesk x = Told.desk("row 5 6;weight 0 7;weight 1 3;");
        due("insert(1, 8)", x.insert(1, 8), 3);
        due("insert(3, 9)", x.insert(3, 9), 4);
        due("insert(0, 0)", x.insert(0, 0), 5);
        row(x, 0, 5, 8, 6, 9);
        weights(x, 1, 7, 1, 3, 1);
        due("insert(6, 1)", x.insert(6, 1), -1);
        due("insert(-1, 1)", x.insert(-1, 1), -1);
        due("insert(0, 1000)", x.insert(0, 1000), -1);
        due("insert(0, -1)", x.insert(0, -1), -1);
        due("edits", x.count(6), 3);
        ModeDesk y = full();
        due("insert into 120", y.insert(5, 5), -1);
        due("120 places", y.count(0), 120);
        y.remove(119);
        due("insert into 119", y.insert(119, 5), 120);
    }

    private void promise9() {
        ModeDesk x = Told.desk("row 5 6 7;weight 1 7;weight 2 3;");
        due("remove(3)", x.remove(3), -1);
        due("remove(-1)", x.remove(-1), -1);
        due("remove(0)", x.remove(0), 5);
        row(x, 6, 7);
        weights(x, 7, 3);
        due("remove(1)", x.remove(1), 7);
        due("remove(0)", x.remove(0), 6);
        due("remove(0) of none", x.remove(0), -1);
        row(x);
        due("edits", x.count(6), 3);
    }

    private void promise10() {
        ModeDesk x = Told.desk(ROW);
        due("fill(1, 4, 4)", x.fill(1, 4, 4), 3);
        row(x, 4, 4, 4, 4, 4, 4, 7, 2, 2);
        weights(x, 1, 5, 1, 3);
        due("fill(0, 5, 4)", x.fill(0, 5, 4), 0);
        due("one edit", x.count(6), 1);
        due("fill(8, 8, 999)", x.fill(8, 8, 999), 1);
        due("fill(3, 2, 1)", x.fill(3, 2, 1), -1);
        due("fill(-1, 2, 1)", x.fill(-1, 2, 1), -1);
        due("fill(0, 9, 1)", x.fill(0, 9, 1), -1);
        due("fill(0, 0, 1000)", x.fill(0, 0, 1000), -1);
        due("fill(0, 0, -1)", x.fill(0, 0, -1), -1);
        due("two edits", x.count(6), 2);
    }

    private void promise11() {
        ModeDesk x = Told.desk("row 5 6 5 5;weight 1 7;weight 3 2;");
        check.due("swap(0, 1)", x.swap(0, 1), true);
        row(x, 6, 5, 5, 5);
        weights(x, 7, 1, 1, 2);
        check.due("swap(3, 1) of like values", x.swap(3, 1), true);
        weights(x, 7, 2, 1, 1);
        due("weights alone make an edit", x.count(6), 2);
        check.due("swap(2, 3) of like places", x.swap(2, 3), true);
        due("which is none", x.count(6), 2);
        check.due("swap(2, 2)", x.swap(2, 2), false);
        check.due("swap(0, 4)", x.swap(0, 4), false);
        check.due("swap(4, 0)", x.swap(4, 0), false);
        check.due("swap(-1, 0)", x.swap(-1, 0), false);
        check.due("swap(0, -1)", x.swap(0, -1), false);
        row(x, 6, 5, 5, 5);
    }

    private void promise12() {
        ModeDesk x = Told.desk(ROW);
        due("flip(0, 3)", x.flip(0, 3), 4);
        row(x, 2, 4, 9, 4, 9, 4, 7, 2, 2);
        weights(x, 3, 1, 5, 1, 1);
        due("flip(1, 3), ends alike", x.flip(1, 3), 0);
        due("nothing other", x.count(6), 1);
        due("flip(0, 0)", x.flip(0, 0), 0);
        due("flip(6, 8)", x.flip(6, 8), 2);
        row(x, 2, 4, 9, 4, 9, 4, 2, 2, 7);
        due("flip(1, 0)", x.flip(1, 0), -1);
        due("flip(0, 9)", x.flip(0, 9), -1);
        due("flip(-1, 0)", x.flip(-1, 0), -1);
        ModeDesk y = Told.desk("row 1 1;weight 0 2;");
        due("flip(0, 1) of weights", y.flip(0, 1), 0);
        due("is an edit", y.count(6), 1);
        weights(y, 1, 2);
    }

    private void promise13() {
        ModeDesk x = Told.desk(ROW);
        due("shift(1, 4, 1)", x.shift(1, 4, 1), 3);
        row(x, 4, 9, 9, 4, 2, 4, 7, 2, 2);
        weights(x, 1, 1, 5, 1, 3, 1);
        due("shift(5, 8, 3)", x.shift(5, 8, 3), 3);
        row(x, 4, 9, 9, 4, 2, 7, 2, 2, 4);
        due("shift(0, 8, 0)", x.shift(0, 8, 0), 0);
        due("shift(0, 8, 9)", x.shift(0, 8, 9), 0);
        due("edits", x.count(6), 2);
        due("shift(0, 8, 10)", x.shift(0, 8, 10), -1);
        due("shift(3, 4, 3)", x.shift(3, 4, 3), -1);
        due("shift(0, 8, -1)", x.shift(0, 8, -1), -1);
        due("shift(2, 1, 0)", x.shift(2, 1, 0), -1);
        due("shift(0, 9, 1)", x.shift(0, 9, 1), -1);
        due("shift(-1, 3, 1)", x.shift(-1, 3, 1), -1);
        due("shift(3, 3, 1)", x.shift(3, 3, 1), 0);
        ModeDesk y = Told.desk("row 1 2 3 4 5;");
        due("shift(0, 4, 2)", y.shift(0, 4, 2), 5);
        row(y, 4, 5, 1, 2, 3);
    }

    private void promise14() {
        ModeDesk x = Told.desk(ROW);
        due("replace(2, 4)", x.replace(2, 4), 3);
        row(x, 4, 9, 4, 4, 9, 4, 7, 4, 4);
        weights(x, 1, 5, 1, 3, 1);
        due("replace(4, 4)", x.replace(4, 4), 0);
        due("replace(2, 9)", x.replace(2, 9), 0);
        due("one edit", x.count(6), 1);
        due("replace(1000, 4)", x.replace(1000, 4), -1);
        due("replace(4, 1000)", x.replace(4, 1000), -1);
        due("replace(-1, 4)", x.replace(-1, 4), -1);
        due("replace(4, -1)", x.replace(4, -1), -1);
        due("replace(4, 0)", x.replace(4, 0), 6);
        due("replace(0, 999)", x.replace(0, 999), 6);
    }

    private void promise15() {
        ModeDesk x = Told.desk(ROW);
        due("sort(0, 5, true)", x.sort(0, 5, true), 4);
        row(x, 2, 4, 4, 4, 9, 9, 7, 2, 2);
        weights(x, 3, 1, 1, 1, 5, 1);
        due("sort(0, 8, false)", x.sort(0, 8, false), 6);
        row(x, 9, 9, 7, 4, 4, 4, 2, 2, 2);
        weights(x, 5, 1, 1, 1, 1, 1, 3, 1, 1);
        due("sort(3, 8, false)", x.sort(3, 8, false), 0);
        due("two edits", x.count(6), 2);
        due("sort(0, 9, true)", x.sort(0, 9, true), -1);
        due("sort(4, 3, true)", x.sort(4, 3, true), -1);
        due("sort(-1, 3, true)", x.sort(-1, 3, true), -1);
        due("sort(2, 2, true)", x.sort(2, 2, true), 0);
    }

    private void promise16() {
        ModeDesk x = Told.desk("row 1 2 3 4 5 6 7;block 2;");
        due("none since the text", x.refreshed(), -2);
        x.set(0, 1);
        due("no edit", x.refreshed(), -2);
        // Blocks 1 2 | 3 4 | 5 6 | 7: the pairs with block 0 in them are four of ten.
        x.set(0, 9);
        due("set(0, 9)", x.refreshed(), 4);
        x.set(2, 9);
        due("set(2, 9)", x.refreshed(), 6);
        check.due("swap(0, 2)", x.swap(0, 2), true);
        due("of like values", x.refreshed(), 6);
        x.swap(1, 6);
        due("swap(1, 6)", x.refreshed(), 7);
        x.weigh(3, 5);
        due("weigh(3, 5)", x.refreshed(), 0);
        x.fill(2, 5, 8);
        due("fill(2, 5, 8)", x.refreshed(), 8);
        due("asked again", x.refreshed(), 8);
        x.undo();
        due("undo()", x.refreshed(), 8);
        x.undo();
        due("undo() of a weight", x.refreshed(), 0);
        Told.text(x, "row 1;");
        due("none since the text", x.refreshed(), -2);
    }

    private void promise16Shrunk() {
        ModeDesk x = Told.desk("row 5 5 5 5 5;block 2;");
        x.remove(0);
        due("a block is gone", x.refreshed(), 0);
        x.remove(0);
        // Blocks 5 5 | 5: the last one has fewer places, and is in two pairs of three.
        due("a block has fewer", x.refreshed(), 2);
        x.insert(0, 5);
        due("a place more", x.refreshed(), 2);
        x.insert(1, 5);
        due("a block more", x.refreshed(), 3);
        x.undo();
        due("and away", x.refreshed(), 0);
        ModeDesk y = Told.desk("row 5;");
        y.remove(0);
        due("no blocks left", y.refreshed(), 0);
        y.undo();
        due("one again", y.refreshed(), 1);
        ModeDesk z = Told.desk("row 1 2 2 2 2 2 2 2 2 2 2 2 2;block 4;");
        z.remove(0);
        // All of 2 but place 0, and the block of place 12 is gone: pairs with block 0.
        due("remove(0)", z.refreshed(), 3);
    }

    private void promise17() {
        ModeDesk x = Told.desk("row 7;");
        due("nothing to undo", x.undo(), -1);
        for (int i = 0; i < 15; i++) {
            x.set(0, 100 + i);
        }
        due("count(6)", x.count(6), 12);
        for (int i = 11; i >= 0; i--) {
            due("undo()", x.undo(), i);
            row(x, 102 + i);
        }
        due("the eldest are forgotten", x.undo(), -1);
        row(x, 102);
        ModeDesk y = Told.desk(ROW);
        y.sort(0, 8, true);
        y.remove(3);
        y.insert(0, 1);
        y.shift(0, 8, 4);
        due("four edits", y.count(6), 4);
        y.undo();
        y.set(2, 77);
        due("undo() and an edit", y.count(6), 4);
        for (int i = 3; i >= 0; i--) {
            due("undo()", y.undo(), i);
        }
        row(y, 4, 9, 4, 2, 9, 4, 7, 2, 2);
        weights(y, 1, 5, 1, 3, 1, 1, 1, 1, 1);
    }

    private void promise18() {
        ModeDesk x = Told.desk("row 7 8;");
        x.insert(0, 1);
        x.weigh(0, 4);
        x.set(2, 9);
        // 7 8 | 1 7 8 | 1 7 8 with a weight | 1 7 9
        int[][] want = {{1, 7, 9, -2}, {1, 7, 8, -2}, {1, 7, 8, -2}, {7, 8, -2, -2}};
        for (int k = 0; k < 4; k++) {
            for (int p = 0; p < 4; p++) {
                due("was(" + k + ", " + p + ")", x.was(k, p), want[k][p]);
            }
        }
        due("was(4, 0)", x.was(4, 0), -1);
        due("was(-1, 0)", x.was(-1, 0), -1);
        due("was(0, -1)", x.was(0, -1), -1);
        due("was(0, MAX)", x.was(0, MAX), -2);
        due("was(4, 9)", x.was(4, 9), -1);
        x.undo();
        due("after undo() was(0, 2)", x.was(0, 2), 8);
        due("after undo() was(2, 0)", x.was(2, 0), 7);
        due("after undo() was(3, 0)", x.was(3, 0), -1);
        ModeDesk y = full();
        due("was(12, 108)", y.was(12, 108), -2);
        due("was(12, 107)", y.was(12, 107), 107 % 7);
        due("was(13, 0)", y.was(13, 0), -1);
    }

    private void promise52() {
        ModeDesk x = Told.desk("row 7 8;");
        due("since(0) of the text", x.since(0), -2);
        x.set(0, 5);
        due("since(0)", x.since(0), 0);
        due("since(1)", x.since(1), -2);
        x.insert(2, 8);
        x.weigh(2, 8);
        due("since(0)", x.since(0), 2);
        due("since(2)", x.since(2), 1);
        x.remove(0);
        due("since(0)", x.since(0), 0);
        due("since(1), of like value", x.since(1), -2);
        due("since(2)", x.since(2), -1);
        due("since(-1)", x.since(-1), -1);
        x.undo();
        due("since(0) undone", x.since(0), 2);
        for (int i = 1; i <= 11; i++) {
            x.weigh(0, i % 9 + 1);
        }
        due("since(2), eleven weights on", x.since(2), -2);
        due("since(0), eleven weights on", x.since(0), -2);
    }

    // ---- one span ----

    private void promise19() {
        ModeDesk x = Told.desk(ROW);
        int[] want = {4, 3, 0, 5};
        for (int what = 0; what < 4; what++) {
            due("mode(0, 8, " + what + ")", x.mode(0, 8, what), want[what]);
        }
        due("mode(3, 8, 0)", x.mode(3, 8, 0), 2);
        due("mode(3, 8, 1)", x.mode(3, 8, 1), 3);
        due("mode(3, 8, 2)", x.mode(3, 8, 2), 3);
        due("mode(3, 8, 3)", x.mode(3, 8, 3), 8);
        due("mode(1, 2, 0)", x.mode(1, 2, 0), 9);
        due("mode(6, 6, 3)", x.mode(6, 6, 3), 6);
        due("mode(0, 8, 4)", x.mode(0, 8, 4), -1);
        due("mode(0, 8, -1)", x.mode(0, 8, -1), -1);
        due("mode(0, 9, 0)", x.mode(0, 9, 0), -1);
        due("mode(-1, 3, 0)", x.mode(-1, 3, 0), -1);
        due("mode(3, 2, 0)", x.mode(3, 2, 0), -1);
        due("mode(MIN, MAX, 0)", x.mode(MIN, MAX, 0), -1);
        due("first", ties("first").mode(0, 5, 0), 8);
        due("last", ties("last").mode(0, 4, 0), 1);
        due("least", ties("least").mode(0, 6, 0), 1);
        due("most", ties("most").mode(0, 6, 0), 8);
        due("last of 0 to 3", ties("last").mode(0, 3, 0), 6);
        due("last of 0 to 5", ties("last").mode(0, 5, 0), 8);
        due("most of 1 to 4", ties("most").mode(1, 4, 0), 6);
    }

    private void ranks(String name, int... want) {
        ModeDesk x = ties(name);
        for (int k = 0; k < want.length; k++) {
            due(name + ": ranked(0, 6, " + k + ", 0)", x.ranked(0, 6, k, 0), want[k]);
            due(name + ": rank(0, 6, " + want[k] + ")", x.rank(0, 6, want[k]), k);
        }
        due(name + ": ranked(0, 6, 4, 0)", x.ranked(0, 6, 4, 0), -2);
    }

    private void promise20() {
        ranks("first", 8, 1, 6, 3);
        ranks("last", 8, 1, 6, 3);
        ranks("least", 1, 6, 8, 3);
        ranks("most", 8, 6, 1, 3);
        ModeDesk y = Told.desk("row 1 2 2 1 3 3;ties last;");
        due("last: ranked(0, 5, 0, 0)", y.ranked(0, 5, 0, 0), 3);
        due("last: ranked(0, 5, 1, 0)", y.ranked(0, 5, 1, 0), 1);
        due("last: ranked(0, 5, 2, 0)", y.ranked(0, 5, 2, 0), 2);
        ModeDesk x = Told.desk(ROW);
        due("ranked(0, 8, 1, 0)", x.ranked(0, 8, 1, 0), 2);
        due("ranked(0, 8, 1, 1)", x.ranked(0, 8, 1, 1), 3);
        due("ranked(0, 8, 1, 2)", x.ranked(0, 8, 1, 2), 3);
        due("ranked(0, 8, 1, 3)", x.ranked(0, 8, 1, 3), 8);
        due("ranked(1, 4, 2, 2)", x.ranked(1, 4, 2, 2), 3);
        due("ranked(0, 8, 4, 0)", x.ranked(0, 8, 4, 0), -2);
        due("ranked(0, 8, MAX, 0)", x.ranked(0, 8, MAX, 0), -2);
        due("ranked(0, 8, 4, 4)", x.ranked(0, 8, 4, 4), -1);
        due("ranked(0, 8, 0, -1)", x.ranked(0, 8, 0, -1), -1);
        due("ranked(0, 8, -1, 0)", x.ranked(0, 8, -1, 0), -1);
        due("ranked(0, 9, 0, 0)", x.ranked(0, 9, 0, 0), -1);
    }

    private void promise21() {
        ModeDesk x = Told.desk(ROW);
        due("rank(0, 8, 9)", x.rank(0, 8, 9), 2);
        due("rank(3, 5, 4)", x.rank(3, 5, 4), 2);
        due("rank(3, 5, 7)", x.rank(3, 5, 7), -2);
        due("rank(0, 8, 999)", x.rank(0, 8, 999), -2);
        due("rank(0, 8, 1000)", x.rank(0, 8, 1000), -1);
        due("rank(0, 8, -1)", x.rank(0, 8, -1), -1);
        due("rank(5, 3, 4)", x.rank(5, 3, 4), -1);
        due("rank(0, 9, 4)", x.rank(0, 9, 4), -1);
    }

    private void promise22() {
        ModeDesk x = Told.desk(ROW);
        due("often(0, 8, 4)", x.often(0, 8, 4), 3);
        due("often(1, 5, 4)", x.often(1, 5, 4), 2);
        due("often(6, 8, 4)", x.often(6, 8, 4), 0);
        due("often(0, 8, 0)", x.often(0, 8, 0), 0);
        due("often(0, 8, 1000)", x.often(0, 8, 1000), -1);
        due("often(0, 8, -1)", x.often(0, 8, -1), -1);
        due("often(0, 9, 4)", x.often(0, 9, 4), -1);
        due("often(2, 1, 4)", x.often(2, 1, 4), -1);
    }

    private void promise23() {
        ModeDesk x = Told.desk(ROW);
        due("at(4, 0)", x.at(4, 0), 0);
        due("at(2, 0)", x.at(2, 0), 3);
        due("at(2, 1)", x.at(2, 1), 7);
        due("at(2, 2)", x.at(2, 2), 8);
        due("at(2, 3)", x.at(2, 3), -2);
        due("at(2, MAX)", x.at(2, MAX), -2);
        due("at(0, 0)", x.at(0, 0), -2);
        due("at(2, -1)", x.at(2, -1), -1);
        due("at(1000, 0)", x.at(1000, 0), -1);
        due("at(-1, 0)", x.at(-1, 0), -1);
    }

    private void promise24() {
        ModeDesk x = Told.desk(ROW);
        due("unlike(0, 8)", x.unlike(0, 8), 4);
        due("unlike(0, 2)", x.unlike(0, 2), 2);
        due("unlike(7, 8)", x.unlike(7, 8), 1);
        due("unlike(0, 9)", x.unlike(0, 9), -1);
        due("unlike(-1, 0)", x.unlike(-1, 0), -1);
        due("unlike(1, 0)", x.unlike(1, 0), -1);
    }

    private void promise25() {
        ModeDesk x = Told.desk(ROW);
        due("times(0, 8, 3)", x.times(0, 8, 3), 2);
        due("times(0, 8, 2)", x.times(0, 8, 2), 1);
        due("times(0, 8, 1)", x.times(0, 8, 1), 1);
        due("times(0, 8, 4)", x.times(0, 8, 4), 0);
        due("times(0, 8, MAX)", x.times(0, 8, MAX), 0);
        due("times(3, 6, 1)", x.times(3, 6, 1), 4);
        due("times(0, 8, 0)", x.times(0, 8, 0), -1);
        due("times(0, 8, -1)", x.times(0, 8, -1), -1);
        due("times(0, 9, 1)", x.times(0, 9, 1), -1);
    }

    private void promise26() {
        ModeDesk x = Told.desk(ROW);
        due("majority(0, 2)", x.majority(0, 2), 4);
        due("majority(0, 3), just half", x.majority(0, 3), -2);
        due("majority(6, 8)", x.majority(6, 8), 2);
        due("majority(5, 8), just half", x.majority(5, 8), -2);
        due("majority(6, 6)", x.majority(6, 6), 7);
        due("majority(0, 8)", x.majority(0, 8), -2);
        due("majority(0, 9)", x.majority(0, 9), -1);
        due("majority(2, 1)", x.majority(2, 1), -1);
    }

    private void promise27() {
        ModeDesk x = Told.desk(ROW);
        // 9: 5 + 1; 2: 3 + 1 + 1; 4: 3; 7: 1.
        due("heaviest(0, 8, 0)", x.heaviest(0, 8, 0), 9);
        due("heaviest(0, 8, 1)", x.heaviest(0, 8, 1), 6);
        due("heaviest(2, 8, 0)", x.heaviest(2, 8, 0), 2);
        due("heaviest(2, 8, 1)", x.heaviest(2, 8, 1), 5);
        due("heaviest(4, 6, 0), all alike", x.heaviest(4, 6, 0), 9);
        due("heaviest(0, 8, 2)", x.heaviest(0, 8, 2), -1);
        due("heaviest(0, 8, -1)", x.heaviest(0, 8, -1), -1);
        due("heaviest(0, 9, 0)", x.heaviest(0, 9, 0), -1);
        ModeDesk y = Told.desk("row 6 3 3;weight 0 2;");
        due("like weights, by rank", y.heaviest(0, 2, 0), 3);
        ModeDesk z = Told.desk("row 6 3 5;weight 1 2;weight 2 2;ties last;");
        due("like weights and numbers, by ties", z.heaviest(0, 2, 0), 5);
    }

    private void promise28() {
        ModeDesk x = Told.desk("row 4 9 4 2 9 4 7 2 2 9 9;block 3;");
        due("pair(0, 0, 0)", x.pair(0, 0, 0), 4);
        due("pair(0, 0, 1)", x.pair(0, 0, 1), 2);
        due("pair(1, 1, 0)", x.pair(1, 1, 0), 2);
        due("pair(1, 2, 0)", x.pair(1, 2, 0), 2);
        due("pair(1, 2, 1)", x.pair(1, 2, 1), 3);
        due("pair(3, 3, 0)", x.pair(3, 3, 0), 9);
        due("pair(3, 3, 1)", x.pair(3, 3, 1), 2);
        due("pair(0, 3, 0)", x.pair(0, 3, 0), 9);
        due("pair(0, 3, 1)", x.pair(0, 3, 1), 4);
        ModeDesk y = Told.desk("row 1 2 2 1 1 1;block 2;");
        due("pair(0, 1, 1), nothing beyond it", y.pair(0, 1, 1), 2);
        due("pair(1, 2, 1), nothing ahead of it", y.pair(1, 2, 1), 3);
        due("pair(1, 0, 0)", x.pair(1, 0, 0), -1);
        due("pair(0, 4, 0)", x.pair(0, 4, 0), -1);
        due("pair(4, 4, 0)", x.pair(4, 4, 0), -1);
        due("pair(-1, 0, 0)", x.pair(-1, 0, 0), -1);
        due("pair(0, 0, 2)", x.pair(0, 0, 2), -1);
        due("pair(0, 0, -1)", x.pair(0, 0, -1), -1);
        due("pair(MIN, MAX, 0)", x.pair(MIN, MAX, 0), -1);
    }

    private void candidates(ModeDesk x, int l, int r, int... want) {
        due("candidate(" + l + ", " + r + ", -1)", x.candidate(l, r, -1), want.length);
        for (int k = 0; k < want.length; k++) {
            due("candidate(" + l + ", " + r + ", " + k + ")", x.candidate(l, r, k), want[k]);
        }
        due("candidate(" + l + ", " + r + ", " + want.length + ")", x.candidate(l, r, want.length), -2);
    }

    private void promise29() {
        // 4 9 4 | 2 9 4 | 7 2 2 | 9 9
        ModeDesk x = Told.desk("row 4 9 4 2 9 4 7 2 2 9 9;block 3;");
        candidates(x, 0, 10, 9);
        candidates(x, 0, 8, 4);
        candidates(x, 1, 10, 9, 2, 4);
        candidates(x, 3, 9, 2, 9);
        candidates(x, 2, 6, 4, 2, 7);
        candidates(x, 1, 4, 9, 4, 2);
        candidates(x, 7, 8, 2);
        candidates(x, 9, 10, 9);
        candidates(x, 10, 10, 9);
        candidates(x, 8, 10, 9, 2);
        candidates(x, 4, 7, 9, 4, 7, 2);
        due("candidate(0, 10, -2)", x.candidate(0, 10, -2), -1);
        due("candidate(0, 10, MAX)", x.candidate(0, 10, MAX), -2);
        due("candidate(0, 11, 0)", x.candidate(0, 11, 0), -1);
        due("candidate(3, 2, -1)", x.candidate(3, 2, -1), -1);
        ModeDesk y = Told.desk("row 5 6 7 8 6;block 2;ties least;");
        // The whole blocks 7 8 and 6 have the mode 6; 6 at place 1 is the same once more.
        candidates(y, 1, 4, 6);
        candidates(y, 1, 3, 6, 7);
    }

    private void promise30() {
        ModeDesk x = Told.desk(ROW);
        // 2 2 2 4 4 4 7 9 9
        due("median(0, 8)", x.median(0, 8), 4);
        due("median(0, 3)", x.median(0, 3), 4);
        due("median(3, 4)", x.median(3, 4), 2);
        due("median(3, 6)", x.median(3, 6), 4);
        due("median(1, 1)", x.median(1, 1), 9);
        due("median(0, 9)", x.median(0, 9), -1);
        due("median(1, 0)", x.median(1, 0), -1);
        ModeDesk y = Told.desk("row 999 0 999;");
        due("median(0, 2)", y.median(0, 2), 999);
        due("median(0, 1)", y.median(0, 1), 0);
    }

    private void promise31() {
        ModeDesk x = Told.desk(ROW);
        // 4: 2 2 2; 9: 4 2 4 7 2 2; 4: 2 2 2; 2: none; 9: 4 7 2 2; 4: 2 2; 7: 2 2.
        due("twisted(0, 8)", x.twisted(0, 8), 20);
        due("twisted(0, 3)", x.twisted(0, 3), 4);
        due("twisted(7, 8), of like ones", x.twisted(7, 8), 0);
        due("twisted(5, 5)", x.twisted(5, 5), 0);
        due("twisted(0, 9)", x.twisted(0, 9), -1);
        due("twisted(2, 1)", x.twisted(2, 1), -1);
    }

    private void runs(ModeDesk x, int l, int r, int... want) {
        for (int what = 0; what < 3; what++) {
            due("run(" + l + ", " + r + ", " + what + ")", x.run(l, r, what), want[what]);
        }
    }

    private void promise32() {
        ModeDesk x = Told.desk("row 3 3 5 5 5 1 8 8 8 2;");
        runs(x, 0, 9, 2, 4, 5);
        runs(x, 0, 3, 0, 1, 3);
        runs(x, 4, 9, 6, 8, 8);
        runs(x, 4, 7, 6, 7, 8);
        runs(x, 9, 9, 9, 9, 2);
        runs(x, 4, 6, 4, 4, 5);
        due("run(0, 9, 3)", x.run(0, 9, 3), -1);
        due("run(0, 9, -1)", x.run(0, 9, -1), -1);
        due("run(0, 10, 0)", x.run(0, 10, 0), -1);
        due("run(1, 0, 0)", x.run(1, 0, 0), -1);
    }

    // ---- wrong spans, of all calls that take one ----

    private void noSuchSpans() {
        int[][] spans = {{-1, 3}, {-1, -1}, {3, 2}, {0, 9}, {9, 9}, {8, 9}, {MIN, MAX}, {0, MAX}, {MIN, 0}, {MAX, MIN}};
        ModeDesk x = Told.desk(ROW);
        for (int[] s : spans) {
            String of = " of no such span " + s[0] + ", " + s[1];
            noEdit(x, s[0], s[1], of);
            noRank(x, s[0], s[1], of);
            noOther(x, s[0], s[1], of);
        }
        due("no edits", x.count(6), 0);
        row(x, 4, 9, 4, 2, 9, 4, 7, 2, 2);
    }

    private void noEdit(ModeDesk x, int l, int r, String of) {
        due("fill" + of, x.fill(l, r, 1), -1);
        due("flip" + of, x.flip(l, r), -1);
        due("shift" + of, x.shift(l, r, 0), -1);
        due("sort" + of, x.sort(l, r, true), -1);
    }

    private void noRank(ModeDesk x, int l, int r, String of) {
        due("mode" + of, x.mode(l, r, 0), -1);
        due("ranked" + of, x.ranked(l, r, 9, 0), -1);
        due("rank" + of, x.rank(l, r, 0), -1);
        due("often" + of, x.often(l, r, 4), -1);
        due("unlike" + of, x.unlike(l, r), -1);
        due("times" + of, x.times(l, r, 1), -1);
        due("majority" + of, x.majority(l, r), -1);
        due("heaviest" + of, x.heaviest(l, r, 0), -1);
        due("candidate" + of, x.candidate(l, r, 200), -1);
        due("lead" + of, x.lead(l, r), -1);
        due("rarest" + of, x.rarest(l, r, 0), -1);
        due("peeled" + of, x.peeled(l, r, 200), -1);
        due("needed" + of, x.needed(l, r, 4), -1);
        due("ifTies" + of, x.ifTies(0, l, r), -1);
    }

    private void noOther(ModeDesk x, int l, int r, String of) {
        due("median" + of, x.median(l, r), -1);
        due("twisted" + of, x.twisted(l, r), -1);
        due("run" + of, x.run(l, r, 0), -1);
        due("common" + of, x.common(l, r, 0), -1);
        due("together" + of, x.together(l, r, 0, 0, 0), -1);
        due("together, the other one" + of, x.together(0, 0, l, r, 0), -1);
        due("split" + of, x.split(l, r, 0), -1);
        due("ifSet" + of, x.ifSet(0, 4, l, r), -1);
        due("ifOut of l" + of, x.ifOut(l, l, r), -1);
        due("ifOut of r" + of, x.ifOut(r, l, r), -1);
        due("agree ahead" + of, x.agree(l, r, 8), -1);
        due("agree of both ends" + of, x.agree(l, l, r), -1);
    }

    // ---- two spans, what would be ----

    private void promise33() {
        ModeDesk x = Told.desk(ROW);
        // 4 9 4 | 2 9 4 | 7 2 2
        due("common(0, 2, 3)", x.common(0, 2, 3), 2);
        due("common(3, 5, 6)", x.common(3, 5, 6), 1);
        due("common(6, 8, 3)", x.common(6, 8, 3), 1);
        due("common(0, 2, 6)", x.common(0, 2, 6), 0);
        due("common(0, 2, 2)", x.common(0, 2, 2), 2);
        due("common(0, 8, 0)", x.common(0, 8, 0), 9);
        due("common(0, 2, 1)", x.common(0, 2, 1), 2);
        due("common(0, 2, 7)", x.common(0, 2, 7), -1);
        due("common(0, 2, -1)", x.common(0, 2, -1), -1);
        due("common(0, 2, MAX)", x.common(0, 2, MAX), -1);
        due("common(0, 9, 0)", x.common(0, 9, 0), -1);
        due("common(2, 0, 0)", x.common(2, 0, 0), -1);
    }

    private void promise39() {
        ModeDesk x = Told.desk(ROW);
        due("needed(0, 8, 4)", x.needed(0, 8, 4), 1);
        due("needed(0, 5, 4)", x.needed(0, 5, 4), 0);
        due("needed(0, 8, 7)", x.needed(0, 8, 7), 2);
        due("needed(0, 8, 0)", x.needed(0, 8, 0), 3);
        due("needed(7, 8, 4)", x.needed(7, 8, 4), 2);
        due("needed(6, 6, 4)", x.needed(6, 6, 4), 1);
        due("needed(6, 6, 7)", x.needed(6, 6, 7), 0);
        due("needed(3, 6, 4)", x.needed(3, 6, 4), 1);
        due("needed(0, 9, 4)", x.needed(0, 9, 4), -1);
        due("needed(3, 2, 4)", x.needed(3, 2, 4), -1);
        due("needed(0, 8, 1000)", x.needed(0, 8, 1000), -1);
        due("needed(0, 8, -1)", x.needed(0, 8, -1), -1);
    }

    private void promise40() {
        ModeDesk x = Told.desk(ROW);
        due("ifSet(0, 2, 0, 8)", x.ifSet(0, 2, 0, 8), 2);
        due("ifSet(8, 9, 0, 8)", x.ifSet(8, 9, 0, 8), 4);
        due("ifSet(0, 9, 0, 8)", x.ifSet(0, 9, 0, 8), 9);
        due("ifSet(0, 500, 0, 0)", x.ifSet(0, 500, 0, 0), 500);
        due("ifSet(0, 2, 1, 5), a place elsewhere", x.ifSet(0, 2, 1, 5), 9);
        due("last: ifSet(0, 3, 0, 2)", Told.desk("row 1 2 3;ties last;").ifSet(0, 4, 0, 2), 3);
        due("ifSet(9, 2, 0, 8)", x.ifSet(9, 2, 0, 8), -1);
        due("ifSet(-1, 2, 0, 8)", x.ifSet(-1, 2, 0, 8), -1);
        due("ifSet(0, 1000, 0, 8)", x.ifSet(0, 1000, 0, 8), -1);
        due("ifSet(0, -1, 0, 8)", x.ifSet(0, -1, 0, 8), -1);
        due("ifSet(0, 2, 0, 9)", x.ifSet(0, 2, 0, 9), -1);
        due("ifSet(0, 2, 3, 2)", x.ifSet(0, 2, 3, 2), -1);
        row(x, 4, 9, 4, 2, 9, 4, 7, 2, 2);
    }

    private void promise41() {
        ModeDesk x = Told.desk(ROW);
        due("ifOut(0, 0, 8)", x.ifOut(0, 0, 8), 2);
        due("ifOut(8, 0, 8)", x.ifOut(8, 0, 8), 4);
        due("ifOut(0, 0, 1)", x.ifOut(0, 0, 1), 9);
        due("ifOut(1, 0, 1)", x.ifOut(1, 0, 1), 4);
        due("ifOut(7, 7, 8)", x.ifOut(7, 7, 8), 2);
        due("last: ifOut(2, 0, 2)", Told.desk("row 1 2 3;ties last;").ifOut(2, 0, 2), 2);
        due("ifOut(4, 4, 4)", x.ifOut(4, 4, 4), -2);
        due("ifOut(3, 4, 5)", x.ifOut(3, 4, 5), -1);
        due("ifOut(6, 4, 5)", x.ifOut(6, 4, 5), -1);
        due("ifOut(3, 3, 2)", x.ifOut(3, 3, 2), -1);
        due("ifOut(8, 8, 9)", x.ifOut(8, 8, 9), -1);
        row(x, 4, 9, 4, 2, 9, 4, 7, 2, 2);
    }

    private void promise42() {
        ModeDesk x = Told.desk(ROW);
        int[] want = {4, 2, 2, 4};
        for (int ties = 0; ties < 4; ties++) {
            due("ifTies(" + ties + ", 0, 8)", x.ifTies(ties, 0, 8), want[ties]);
        }
        ModeDesk y = Told.desk(ROW + "ties most;");
        int[][] wantOfFour = {{2, 9}, {7, 2}, {2, 2}, {9, 9}};
        for (int ties = 0; ties < 4; ties++) {
            due("ifTies(" + ties + ", 3, 6)", y.ifTies(ties, 3, 6), wantOfFour[ties][0]);
            due("ifTies(" + ties + ", 4, 7)", y.ifTies(ties, 4, 7), wantOfFour[ties][1]);
        }
        due("the desk's own stay", y.mode(3, 6, 0), 9);
        due("and are told", y.count(3), 3);
        due("ifTies(4, 0, 8)", x.ifTies(4, 0, 8), -1);
        due("ifTies(-1, 0, 8)", x.ifTies(-1, 0, 8), -1);
        due("ifTies(0, 0, 9)", x.ifTies(0, 0, 9), -1);
        due("ifTies(0, 1, 0)", x.ifTies(0, 1, 0), -1);
    }

    private void promise43() {
        ModeDesk x = Told.desk(ROW);
        due("lead(0, 8)", x.lead(0, 8), 0);
        due("lead(0, 2)", x.lead(0, 2), 1);
        due("lead(7, 8)", x.lead(7, 8), 2);
        due("lead(6, 6)", x.lead(6, 6), 1);
        due("lead(2, 8)", x.lead(2, 8), 1);
        due("lead(0, 9)", x.lead(0, 9), -1);
        due("lead(1, 0)", x.lead(1, 0), -1);
    }

    private void promise44() {
        ModeDesk x = Told.desk(ROW);
        int[] want = {7, 1, 6, 6};
        int[] wantOfOne = {2, 2, 7, 8};
        for (int what = 0; what < 4; what++) {
            due("rarest(0, 8, " + what + ")", x.rarest(0, 8, what), want[what]);
            due("rarest(7, 8, " + what + ")", x.rarest(7, 8, what), wantOfOne[what]);
        }
        due("rarest(3, 6, 0)", x.rarest(3, 6, 0), 7);
        due("last", ties("last").rarest(0, 5, 0), 6);
        due("least", ties("least").rarest(0, 5, 0), 8);
        due("most", ties("most").rarest(0, 5, 0), 1);
        due("rarest(0, 8, 4)", x.rarest(0, 8, 4), -1);
        due("rarest(0, 8, -1)", x.rarest(0, 8, -1), -1);
        due("rarest(0, 9, 0)", x.rarest(0, 9, 0), -1);
    }

    private void promise45() {
        ModeDesk x = Told.desk(ROW);
        due("follow(4, 0, false)", x.follow(4, 0, false), 0);
        due("follow(4, 3, false)", x.follow(4, 3, false), 5);
        due("follow(4, 6, false)", x.follow(4, 6, false), -2);
        due("follow(4, 8, true)", x.follow(4, 8, true), 5);
        due("follow(4, 2, true)", x.follow(4, 2, true), 2);
        due("follow(2, 2, true)", x.follow(2, 2, true), -2);
        due("follow(0, 0, false)", x.follow(0, 0, false), -2);
        due("follow(4, 9, true)", x.follow(4, 9, true), -1);
        due("follow(4, -1, false)", x.follow(4, -1, false), -1);
        due("follow(1000, 0, false)", x.follow(1000, 0, false), -1);
        due("follow(-1, 0, true)", x.follow(-1, 0, true), -1);
    }

    private void promise46() {
        ModeDesk x = Told.desk(ROW);
        // 4 9 4 and 2 9 4 7 2 2: two and three; 4 9 4 2 9 4 and 7 2 2 are as many, further on.
        due("split(0, 8, 0)", x.split(0, 8, 0), 2);
        due("split(0, 8, 1)", x.split(0, 8, 1), 5);
        due("split(0, 1, 0)", x.split(0, 1, 0), 0);
        due("split(0, 1, 1)", x.split(0, 1, 1), 2);
        due("split(7, 8, 1)", x.split(7, 8, 1), 2);
        due("split(0, 3, 0), the least of several", x.split(0, 3, 0), 2);
        due("split(0, 3, 1)", x.split(0, 3, 1), 3);
        due("split(3, 6, 0), all alike", x.split(3, 6, 0), 3);
        due("split(4, 4, 0)", x.split(4, 4, 0), -1);
        due("split(5, 4, 0)", x.split(5, 4, 0), -1);
        due("split(0, 9, 0)", x.split(0, 9, 0), -1);
        due("split(-1, 3, 0)", x.split(-1, 3, 0), -1);
        due("split(0, 8, 2)", x.split(0, 8, 2), -1);
        due("split(0, 8, -1)", x.split(0, 8, -1), -1);
    }

    private void promise47() {
        ModeDesk x = Told.desk(ROW);
        // 4 9 4 and 7 2 2: 4 stands first.
        due("together(0, 2, 6, 8, 0)", x.together(0, 2, 6, 8, 0), 4);
        due("together(6, 8, 0, 2, 0)", x.together(6, 8, 0, 2, 0), 2);
        due("together(6, 8, 0, 2, 1)", x.together(6, 8, 0, 2, 1), 2);
        due("together(0, 2, 1, 4, 0)", x.together(0, 2, 1, 4, 0), 4);
        due("together(0, 2, 1, 4, 1)", x.together(0, 2, 1, 4, 1), 2);
        due("together(1, 4, 0, 2, 0)", x.together(1, 4, 0, 2, 0), 9);
        due("together(3, 4, 2, 7, 1)", x.together(3, 4, 2, 7, 1), 2);
        due("together(3, 4, 2, 7, 0)", x.together(3, 4, 2, 7, 0), 2);
        due("together(0, 8, 2, 3, 1)", x.together(0, 8, 2, 3, 1), 3);
        due("together(0, 0, 0, 0, 1)", x.together(0, 0, 0, 0, 1), 1);
        ModeDesk y = Told.desk("row 1 2 3;ties last;");
        due("last of those behind", y.together(2, 2, 0, 1, 0), 2);
        due("together(0, 2, 0, 9, 0)", x.together(0, 2, 0, 9, 0), -1);
        due("together(2, 0, 0, 2, 0)", x.together(2, 0, 0, 2, 0), -1);
        due("together(0, 2, 2, 0, 0)", x.together(0, 2, 2, 0, 0), -1);
        due("together(0, 2, 0, 2, 2)", x.together(0, 2, 0, 2, 2), -1);
        due("together(0, 2, 0, 2, -1)", x.together(0, 2, 0, 2, -1), -1);
    }

    private void promise48() {
        ModeDesk x = Told.desk(ROW);
        due("agree(0, 2, 5)", x.agree(0, 2, 5), 0);
        due("agree(0, 1, 2)", x.agree(0, 1, 2), 1);
        due("agree(3, 6, 8)", x.agree(3, 6, 8), 1);
        due("agree(7, 7, 8)", x.agree(7, 7, 8), 1);
        due("agree(0, 5, 8)", x.agree(0, 5, 8), 0);
        due("agree(2, 2, 4), nothing ahead of it", Told.desk("row 3 8 8 3 3;").agree(2, 2, 4), 0);
        due("agree(0, 8, 8)", x.agree(0, 8, 8), -1);
        due("agree(0, 8, 9)", x.agree(0, 8, 9), -1);
        due("agree(3, 2, 8)", x.agree(3, 2, 8), -1);
        due("agree(-1, 2, 8)", x.agree(-1, 2, 8), -1);
        due("agree(0, MAX, 3)", x.agree(0, MAX, 3), -1);
        due("agree(0, 2, 9)", x.agree(0, 2, 9), -1);
    }

    private void promise49() {
        ModeDesk x = Told.desk(ROW);
        int[] left = {9, 6, 3, 1, 0, -2};
        for (int k = 0; k < left.length; k++) {
            due("peeled(0, 8, " + k + ")", x.peeled(0, 8, k), left[k]);
        }
        due("peeled(7, 8, 1)", x.peeled(7, 8, 1), 0);
        due("peeled(0, 8, MAX)", x.peeled(0, 8, MAX), -2);
        due("peeled(0, 8, -1)", x.peeled(0, 8, -1), -1);
        due("peeled(0, 9, 0)", x.peeled(0, 9, 0), -1);
        due("peeled(1, 0, 0)", x.peeled(1, 0, 0), -1);
    }

    // ---- windows, all spans, parts ----

    private void promise34() {
        ModeDesk x = Told.desk(ROW);
        int[] want = {4, 9, 4, 2, 9, 4, 2};
        for (int k = 0; k < want.length; k++) {
            due("window(3, " + k + ")", x.window(3, k), want[k]);
        }
        due("window(3, 7)", x.window(3, 7), -2);
        due("window(3, MAX)", x.window(3, MAX), -2);
        due("window(9, 0)", x.window(9, 0), 4);
        due("window(9, 1)", x.window(9, 1), -2);
        due("window(1, 8)", x.window(1, 8), 2);
        due("window(10, 0)", x.window(10, 0), -1);
        due("window(0, 0)", x.window(0, 0), -1);
        due("window(0, MAX)", x.window(0, MAX), -1);
        due("window(10, MAX)", x.window(10, MAX), -1);
        due("window(3, -1)", x.window(3, -1), -1);
    }

    private void promise35() {
        ModeDesk x = Told.desk(ROW);
        // By width 3: 4 9 4 2 9 4 2; 4 three times, then 2 and 9 twice each.
        due("windows(3, 0)", x.windows(3, 0), 6);
        due("windows(3, 1)", x.windows(3, 1), 3);
        due("windows(3, 2)", x.windows(3, 2), 4);
        due("windows(1, 0)", x.windows(1, 0), 7);
        due("windows(1, 1)", x.windows(1, 1), 4);
        due("windows(1, 2), the least of several", x.windows(1, 2), 2);
        due("windows(9, 0)", x.windows(9, 0), 0);
        due("windows(9, 1)", x.windows(9, 1), 1);
        due("windows(9, 2)", x.windows(9, 2), 4);
        due("windows(10, 0)", x.windows(10, 0), -1);
        due("windows(0, 0)", x.windows(0, 0), -1);
        due("windows(3, 3)", x.windows(3, 3), -1);
        due("windows(3, -1)", x.windows(3, -1), -1);
        due("empty: windows(1, 0)", new ModeDesk().windows(1, 0), -1);
    }

    private void promise36() {
        // 1 2 2 3: 1, 1 2, 2, 1 2 2, 2 2, 2, 1 2 2 3, 2 2 3, 2 3, 3
        ModeDesk x = Told.desk("row 1 2 2 3;");
        due("spans(1)", x.spans(1), 2);
        due("spans(2)", x.spans(2), 7);
        due("spans(3)", x.spans(3), 1);
        due("spans(4)", x.spans(4), 0);
        due("spans(1000)", x.spans(1000), -1);
        due("spans(-1)", x.spans(-1), -1);
        ModeDesk y = Told.desk("row 1 2 2 3;ties last;");
        due("last: spans(1)", y.spans(1), 1);
        due("last: spans(2)", y.spans(2), 7);
        due("last: spans(3)", y.spans(3), 2);
        due("empty: spans(0)", new ModeDesk().spans(0), 0);
    }

    private void promise37() {
        ModeDesk x = Told.desk(ROW);
        due("longest(4, 0)", x.longest(4, 0), 0);
        due("longest(4, 1)", x.longest(4, 1), 8);
        due("longest(2, 0)", x.longest(2, 0), 1);
        due("longest(2, 1)", x.longest(2, 1), 8);
        // 9 4 2 9 4 7 2: 9 twice and first; a longer one has 2 or 4 thrice.
        due("longest(9, 0)", x.longest(9, 0), 1);
        due("longest(9, 1)", x.longest(9, 1), 7);
        due("longest(7, 0)", x.longest(7, 0), 6);
        due("longest(7, 1)", x.longest(7, 1), 7);
        due("longest(5, 0)", x.longest(5, 0), -2);
        due("longest(4, 2)", x.longest(4, 2), -1);
        due("longest(4, -1)", x.longest(4, -1), -1);
        due("longest(1000, 0)", x.longest(1000, 0), -1);
        due("longest(-1, 0)", x.longest(-1, 0), -1);
        ModeDesk y = Told.desk("row 7 1 1 7 1 1;ties least;");
        due("the least l of several", y.longest(7, 0), 0);
        due("and its r", y.longest(7, 1), 0);
        ModeDesk z = Told.desk("row 1 7 1;ties least;");
        due("longest(7, 0)", z.longest(7, 0), 1);
        due("longest(7, 1)", z.longest(7, 1), 1);
    }

    private void promise38() {
        ModeDesk x = Told.desk(ROW);
        int[][] want = {{0, 0, 4}, {7, 8, 2}, {0, 5, 4}, {-2, -2, -2}};
        for (int k = 1; k <= 4; k++) {
            for (int what = 0; what < 3; what++) {
                due("tightest(" + k + ", " + what + ")", x.tightest(k, what), want[k - 1][what]);
            }
        }
        due("tightest(MAX, 0)", x.tightest(MAX, 0), -2);
        due("tightest(0, 0)", x.tightest(0, 0), -1);
        due("tightest(MIN, 0)", x.tightest(MIN, 0), -1);
        due("tightest(1, 3)", x.tightest(1, 3), -1);
        due("tightest(1, -1)", x.tightest(1, -1), -1);
        due("tightest(9, 3)", x.tightest(9, 3), -1);
        due("empty: tightest(1, 2)", new ModeDesk().tightest(1, 2), -2);
        ModeDesk y = Told.desk("row 5 0 5 6 6 0;");
        due("tightest(2, 2)", y.tightest(2, 2), 6);
    }

    private void promise50() {
        ModeDesk x = Told.desk(ROW);
        // 4 9 4 is all that 4 rules; 2 rules 7 2 2, and no more.
        due("reign(4, 0)", x.reign(4, 0), 0);
        due("reign(4, 1)", x.reign(4, 1), 2);
        due("reign(2, 0)", x.reign(2, 0), 6);
        due("reign(2, 1)", x.reign(2, 1), 8);
        due("reign(9, 0)", x.reign(9, 0), 1);
        due("reign(9, 1)", x.reign(9, 1), 1);
        due("reign(5, 0)", x.reign(5, 0), -2);
        due("reign(4, 2)", x.reign(4, 2), -1);
        due("reign(4, -1)", x.reign(4, -1), -1);
        due("reign(1000, 0)", x.reign(1000, 0), -1);
        due("reign(-1, 0)", x.reign(-1, 0), -1);
        ModeDesk y = Told.desk("row 1 3 3 1 3 1 1 1;ties most;");
        due("reign(3, 0)", y.reign(3, 0), 0);
        due("reign(3, 1)", y.reign(3, 1), 4);
        due("reign(1, 0)", y.reign(1, 0), 0);
        due("reign(1, 1)", y.reign(1, 1), 7);
    }

    private void beginnings(ModeDesk x, int... want) {
        for (int what = 0; what < 4; what++) {
            due("beginnings(" + what + ")", x.beginnings(what), want[what]);
        }
        due("beginnings(4)", x.beginnings(4), -1);
        due("beginnings(-1)", x.beginnings(-1), -1);
    }

    private void promise51() {
        beginnings(new ModeDesk(), 0, -2, 0, -2);
        beginnings(Told.desk("row 5;"), 0, -2, 1, 0);
        beginnings(Told.desk(ROW), 0, -2, 1, 8);
        // last: 4; 9; 4; 4; 9; 4; 4; 4; 2
        beginnings(Told.desk(ROW + "ties last;"), 5, 8, 3, 2);
        ModeDesk x = Told.desk("row 1 1 1 2 2 2 2 3;");
        beginnings(x, 1, 6, 2, 5);
        x.set(0, 2);
        // 2: 2; 2 1: 2; 2 1 1: 1; 2 1 1 2 and all from there on: 2
        beginnings(x, 2, 3, 2, 4);
        x.fill(0, 7, 2);
        beginnings(x, 0, -2, 1, 7);
    }

    private void promise53() {
        ModeDesk x = Told.desk(ROW);
        due("gap(4)", x.gap(4), 3);
        due("gap(9)", x.gap(9), 3);
        due("gap(2)", x.gap(2), 4);
        due("gap(7)", x.gap(7), -2);
        due("gap(0)", x.gap(0), -2);
        due("gap(1000)", x.gap(1000), -1);
        due("gap(-1)", x.gap(-1), -1);
        due("gap of neighbours", Told.desk("row 3 3;").gap(3), 1);
    }

    private void promise54() {
        ModeDesk x = Told.desk(ROW);
        due("wide(1)", x.wide(1), 1);
        // By width 4 there is 2 9 4 7; by width 5 there is none such.
        due("wide(2)", x.wide(2), 5);
        due("wide(3)", x.wide(3), 8);
        due("wide(4)", x.wide(4), -2);
        due("wide(MAX)", x.wide(MAX), -2);
        due("wide(0)", x.wide(0), -1);
        due("wide(-1)", x.wide(-1), -1);
        due("empty: wide(1)", new ModeDesk().wide(1), -2);
        // Of 120 places in sevens, the value 0 stands 18 times, of places 0 to 119.
        due("full: wide(18)", full().wide(18), 120);
        due("full: wide(19)", full().wide(19), -2);
        due("all as wide as the row", Told.desk("row 3 3 3;").wide(3), 3);
    }

    private void parts(ModeDesk x, int... want) {
        due("part(-1)", x.part(-1), want.length);
        for (int k = 0; k < want.length; k++) {
            due("part(" + k + ")", x.part(k), want[k]);
        }
        due("part(" + want.length + ")", x.part(want.length), -2);
        due("part(MAX)", x.part(MAX), -2);
        due("part(-2)", x.part(-2), -1);
        due("part(MIN)", x.part(MIN), -1);
    }

    private void promise55() {
        parts(new ModeDesk());
        parts(Told.desk("row 5;"), 0);
        parts(Told.desk("row 5 6;"), 0, 1);
        // 4 | 9 4 2 9 ... : 4 9 4 | 2 | 9 | 4 | 7 2 2 or 4 9 4 | 2 9 4 7 2 2 none: five parts.
        parts(Told.desk(ROW), 0, 3, 4, 5, 6);
        // 1 | 2 1 2, or 1 2 1 | 2: the first with fewest places.
        parts(Told.desk("row 1 2 1 2;"), 0, 1);
        // 1 | 1 2 2 2, 1 1 | 2 2 2, 1 1 2 | 2 2 2 ... : by three of five one part is enough.
        parts(Told.desk("row 1 1 2 2 2;"), 0);
        parts(Told.desk("row 1 1 2 2;"), 0, 1);
        // 1 2 has no majority, though 1 3 3 would be a part.
        ModeDesk y = Told.desk("row 1 2 1 3 3;");
        parts(y, 0, 3);
        y.remove(4);
        parts(y, 0, 3);
        y.remove(3);
        parts(y, 0);
        ModeDesk x = full();
        due("seven values in turn", x.part(-1), 120);
    }

    private void promise56() {
        ModeDesk x = Told.desk(ROW + "ties least;");
        int[] want = {9, 3, 3, 2, 5, 4, 0, 15, 0};
        for (int what = 0; what < want.length; what++) {
            due("count(" + what + ")", x.count(what), want[what]);
        }
        due("unlike values up to the last", Told.desk("row 1 1 2;").count(5), 2);
        due("count(9)", x.count(9), -1);
        due("count(-1)", x.count(-1), -1);
        x.insert(0, 50);
        x.feed(1, 2, 3, 4, 5);
        int[] then = {10, 3, 4, 2, 5, 5, 1, 16, 20};
        for (int what = 0; what < then.length; what++) {
            due("then count(" + what + ")", x.count(what), then[what]);
        }
    }
}
