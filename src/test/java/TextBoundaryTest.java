/** Boundary cases of the tape, the text, its faults, one place, and the counts. */
public final class TextBoundaryTest extends Cases {
    public static void main(String[] args) throws ReflectiveOperationException {
        run(TextBoundaryTest.class);
    }

    private void good(String text, int lines) {
        ModeDesk x = new ModeDesk();
        due("text <" + text + ">", Told.text(x, text), lines);
        due("fault(0)", x.fault(0), 0);
        due("fault(1)", x.fault(1), NONE);
    }

    private void fault(String text, int fault, int place) {
        ModeDesk x = new ModeDesk();
        due("text <" + text + ">", Told.text(x, text), NONE);
        due("fault(0) of <" + text + ">", x.fault(0), fault);
        due("fault(1) of <" + text + ">", x.fault(1), place);
    }

    private static String rowOf(int values) {
        return "row" + " 5".repeat(values);
    }

    // ---- ==== 1: the text ----

    @Says("==== 1: A TEXT: { LINE ';' }")
    void textWithoutLines() {
        good("", 0);
    }

    @Says("==== 1: A TEXT: { LINE ';' }")
    void textOfBlanksAlone() {
        good(" \n\n  ", 0);
    }

    @Says("==== 1: A TEXT: { LINE ';' }")
    void textOfOneLine() {
        good("block 2;", 1);
    }

    @Says("==== 1: A TEXT: { LINE ';' }")
    void textOfManyLines() {
        good("row 1;".repeat(120), 120);
    }

    @Says("==== 1: A TEXT: { LINE ';' }")
    void lineThatIsEmpty() {
        fault(";", 1, 0);
        fault("row 1;;", 1, 6);
        fault(" \n;", 1, 2);
    }

    @Says("==== 1: A TEXT: { LINE ';' }")
    void lastLineWithoutItsSign() {
        fault("row 1;row 2", 1, 11);
    }

    @Says("==== 1: LINE: row V { V } | weight P N | block N | ties first | ties last | ties least | ties most")
    void rowOfOneValue() {
        row(Told.desk("row 7;"), 7);
    }

    @Says("==== 1: row V { V }")
    void rowWithoutValues() {
        fault("row;", 1, 3);
        fault("row 1;row ;", 1, 10);
    }

    @Says("==== 1: row V { V }")
    void rowOfAnythingButNumbers() {
        fault("row 1 row 2;", 1, 6);
        fault("row first;", 1, 4);
    }

    @Says("==== 1: weight P N")
    void weightOfTooFewNumbers() {
        fault("row 1;weight;", 1, 12);
        // The latest number ahead of it, which would be a place, is none of its own.
        fault("row 0;weight;", 1, 12);
        fault("row 0;weight ; 0 1;", 1, 13);
        fault("row 1;weight 0;", 1, 14);
    }

    @Says("==== 1: weight P N")
    void weightOfTooManyNumbers() {
        fault("row 1;weight 0 3 4;", 1, 17);
    }

    @Says("==== 1: block N")
    void blockOfTooFewNumbers() {
        fault("block;", 1, 5);
    }

    @Says("==== 1: block N")
    void blockOfTooManyNumbers() {
        fault("block 3 4;", 1, 8);
    }

    @Says("==== 1: ties first | ties last | ties least | ties most")
    void tiesOfEachName() {
        String[] names = {"first", "last", "least", "most"};
        each(i -> Told.desk("ties " + names[i] + ";").count(3), 0, 1, 2, 3);
    }

    @Says("==== 1: ties first | ties last | ties least | ties most")
    void tiesOfNoName() {
        fault("ties;", 1, 4);
        fault("ties mid;", 1, 5);
        fault("ties ties;", 1, 5);
        fault("ties 0;", 1, 5);
        fault("ties mos;", 1, 5);
        fault("ties firsts;", 1, 5);
    }

    @Says("==== 1: ties first | ties last | ties least | ties most")
    void tiesOfTwoNames() {
        fault("ties first last;", 1, 11);
    }

    @Says("==== 1: V, P, N: digits")
    void numbersWithManyNaughtsAhead() {
        ModeDesk x = Told.desk("row 00000000000000000000000999 000;weight 0001 00000000000000009;block 0000000000000000000020;");
        row(x, 999, 0);
        weights(x, 1, 9);
        due(x.count(1), 20);
    }

    @Says("==== 1: V, P, N: digits")
    void valuesThatWouldWrapRound() {
        fault("row 2147483648;", 2, 4);
        fault("row 4294967296;", 2, 4);
        fault("row 4294967301;", 2, 4);
        fault("row 18446744073709551617;", 2, 4);
        fault("row 5 340282366920938463463374607431768211457;", 2, 6);
    }

    @Says("==== 1: V, P, N: digits")
    void placesThatWouldWrapRound() {
        fault("row 5;weight 4294967296 3;", 1, 13);
        fault("row 5;weight 18446744073709551616 3;", 1, 13);
        fault("row 5;weight 2147483648 3;", 1, 13);
    }

    @Says("==== 1: V, P, N: digits")
    void weightsAndBlocksThatWouldWrapRound() {
        fault("row 5;weight 0 4294967297;", 2, 15);
        fault("row 5;weight 0 18446744073709551617;", 2, 15);
        fault("block 4294967304;", 2, 6);
        fault("block 18446744073709551624;", 2, 6);
    }

    @Says("==== 1: V, P, N: digits")
    void numbersWithSigns() {
        fault("row -1;", 1, 4);
        fault("row +1;", 1, 4);
        fault("row 1.5;", 1, 5);
    }

    @Says("==== 1: Blanks 10, 32")
    void blanksAtAllPlaces() {
        ModeDesk x = Told.desk("\n row\n1 \n 2\n;\n weight \n1\n \n9 ;block\n4;\nties\n\nmost\n; \n");
        row(x, 1, 2);
        weights(x, 1, 9);
        due(x.count(1), 4);
        due(x.count(3), 3);
        due(x.count(4), 4);
    }

    @Says("==== 1: Blanks 10, 32")
    void signsThatAreNoBlanks() {
        for (char c : new char[] {0, 9, 11, 12, 13, 31, 33, 127, 128 + 10, 128 + 32, 255}) {
            fault("row 1" + c + "2;", 1, 5);
            fault(c + "row 1;", 1, 0);
        }
    }

    @Says("==== 1: FAULTS, the first along the text (of one place the least number), with its place")
    void faultsAtTheEndOfAFullTape() {
        ModeDesk x = new ModeDesk();
        Told.feed(x, " ".repeat(899) + "?");
        due(x.text(900), NONE);
        due(x.fault(1), 899);
        Told.feed(x, " ".repeat(897) + "row");
        due(x.text(900), NONE);
        due(x.fault(1), 900);
        Told.feed(x, " ".repeat(899) + "?");
        due(x.text(899), 0);
        due(x.fault(1), NONE);
    }

    // ---- ==== 1: row ----

    @Says("==== 1: row: VALUES 0 .. 999")
    void leastAndGreatestValueTold() {
        row(Told.desk("row 0 999;"), 0, 999);
    }

    @Says("==== 1: row: VALUES 0 .. 999")
    void valueToldThatIsTooLarge() {
        fault("row 999 1000;", 2, 8);
        fault("row 9999;", 2, 4);
    }

    @Says("==== 1: at most 120 in all")
    void fullRowTold() {
        due(Told.desk(rowOf(120) + ";").count(0), 120);
    }

    @Says("==== 1: at most 120 in all")
    void fullRowToldInTwoLines() {
        due(Told.desk(rowOf(119) + ";row 6;").count(0), 120);
    }

    @Says("==== 1: come behind those told ahead, at PLACES from 0 on")
    void rowsComeBehind() {
        row(Told.desk("row 1 2;block 4;row 3;row 4 5;"), 1, 2, 3, 4, 5);
    }

    @Says("==== 1: come behind those told ahead, at PLACES from 0 on")
    void firstValueToldIsAtPlace0() {
        ModeDesk x = Told.desk("row 6;");
        due(x.at(6, 0), 0);
    }

    // ---- ==== 1: weight ----

    @Says("==== 1: weight: a PLACE told ahead")
    void weightOfFirstAndLastPlaceTold() {
        weights(Told.desk("row 5 5 5;weight 0 2;weight 2 3;"), 2, 1, 3);
    }

    @Says("==== 1: weight: a PLACE told ahead")
    void weightOfPlace119() {
        weightsEnd(Told.desk(rowOf(120) + ";weight 119 9;"));
    }

    private void weightsEnd(ModeDesk x) {
        due(Told.place(x, 118, 1), 1);
        due(Told.place(x, 119, 1), 9);
    }

    @Says("==== 1: weight: a PLACE told ahead")
    void weightOfAPlaceToldLater() {
        fault("row 1;weight 1 3;row 2;", 1, 13);
        fault("weight 0 3;row 1;", 1, 7);
    }

    @Says("==== 1: has the WEIGHT 1 .. 9")
    void leastAndGreatestWeightTold() {
        weights(Told.desk("row 5 5;weight 0 1;weight 1 9;"), 1, 9);
    }

    @Says("==== 1: has the WEIGHT 1 .. 9")
    void weightToldThatIsTooSmallOrTooLarge() {
        fault("row 5;weight 0 0;", 2, 15);
        fault("row 5;weight 0 10;", 2, 15);
        fault("row 5;weight 0 999;", 2, 15);
    }

    @Says("==== 1: (1 without")
    void weightThatIsNotTold() {
        weights(Told.desk("row 5 6;"), 1, 1);
    }

    @Says("==== 1: (1 without")
    void weightOfTheTextAheadIsGone() {
        ModeDesk x = Told.desk("row 5 6;weight 0 4;weight 1 7;");
        Told.text(x, "row 5 6;");
        weights(x, 1, 1);
    }

    @Says("==== 1: a later one in place of an earlier one)")
    void weightToldTwice() {
        weights(Told.desk("row 5;weight 0 9;weight 0 1;"), 1);
        weights(Told.desk("row 5;weight 0 2;row 6;weight 0 8;"), 8, 1);
    }

    // ---- ==== 1: block, ties ----

    @Says("==== 1: block: BLOCK 2 .. 20")
    void leastAndGreatestBlockTold() {
        due(Told.desk("block 2;").count(1), 2);
        due(Told.desk("block 20;").count(1), 20);
    }

    @Says("==== 1: block: BLOCK 2 .. 20")
    void blockToldThatIsTooSmall() {
        fault("block 1;", 2, 6);
        fault("block 0;", 2, 6);
    }

    @Says("==== 1: block: BLOCK 2 .. 20")
    void blockToldThatIsTooLarge() {
        fault("block 21;", 2, 6);
        fault("block 200;", 2, 6);
    }

    @Says("==== 1: BLOCK 2 .. 20, once")
    void blockToldTwice() {
        fault("block 3;block 3;", 3, 8);
    }

    @Says("==== 1: BLOCK 2 .. 20, once")
    void blockToldOnceInEachText() {
        ModeDesk x = Told.desk("block 3;");
        due(Told.text(x, "block 5;"), 1);
        due(x.count(1), 5);
    }

    @Says("==== 1: (8 without)")
    void blockThatIsNotTold() {
        ModeDesk x = Told.desk("block 3;");
        due(Told.text(x, "row 1;"), 1);
        due(x.count(1), 8);
    }

    @Says("==== 1: ties, once")
    void tiesToldTwice() {
        fault("ties most;ties most;", 3, 10);
    }

    @Says("==== 1: ties, once")
    void tiesToldOnceInEachText() {
        ModeDesk x = Told.desk("ties last;");
        due(Told.text(x, "ties least;"), 1);
        due(x.count(3), 2);
    }

    @Says("==== 1: (first without)")
    void tiesThatAreNotTold() {
        ModeDesk x = Told.desk("ties last;");
        due(Told.text(x, "row 1 2;"), 1);
        due(x.count(3), 0);
        due(x.mode(0, 1, 0), 1);
    }

    // ---- ==== 1: faults ----

    @Says("==== 1: FAULTS, the first along the text")
    void firstOfSeveralFaults() {
        fault("row 1000 ?;", 2, 4);
        fault("row ? 1000;", 1, 4);
        fault("block 2;block 99;", 3, 8);
        fault("block 99;block 2;", 2, 6);
        fault("row 1;weight 3 99;", 1, 13);
        fault("row 1;weight 0 99 5;", 2, 15);
        fault("ties first;ties mid;", 3, 11);
    }

    @Says("==== 1: (of one place the least number)")
    void twoFaultsOfOnePlace() {
        // No such place, and more than any value, weight or block may be.
        fault("row 1;weight 1000 1;", 1, 13);
        // Told already, and it can't stand there.
        fault("block 2;row 1 block 2;", 1, 14);
        fault("ties first;row 1 ties last;", 1, 17);
        // A 121st, and too large a value.
        fault(rowOf(120) + " 1000;", 2, 244);
    }

    @Says("==== 1: 1 a TOKEN that is none")
    void signsThatAreNoToken() {
        for (char c : new char[] {0, '!', ',', '-', '/', ':', '?', '@', '_', '`', '{', '~', 127, 128, 200, 255}) {
            fault("row 1;" + c, 1, 6);
            fault("row 1 " + c + " 2;", 1, 6);
            fault("ties " + c + ";", 1, 5);
        }
    }

    @Says("==== 1: or can't stand there")
    void tokensThatCannotStandThere() {
        fault("5;", 1, 0);
        fault("first;", 1, 0);
        fault("row 1;3;", 1, 6);
        fault("row 1 weight 0 1;", 1, 6);
        fault("row 1;weight row 1;", 1, 13);
        fault("row 1;weight 0 row;", 1, 15);
        fault("block ties;", 1, 6);
        fault("block 2 row 1;", 1, 8);
        fault("ties first row 1;", 1, 11);
        fault("ties first 1;", 1, 11);
    }

    @Says("==== 1: or can't stand there")
    void wordsWhereTheNumberAheadWouldDo() {
        fault("row 0;weight row 1;", 1, 13);
        fault("row 2 0;weight first 3;", 1, 15);
        fault("row 5;weight 0 2;weight 0 row;", 1, 26);
        fault("row 0;weight 0 1;weight 0 2 0;", 1, 28);
        fault("row 5 4;block row;", 1, 14);
        fault("row 5 4;block ;", 1, 14);
        fault("row 5 4;block", 1, 13);
    }

    @Says("==== 1: (a word that is none of these")
    void wordsThatAreNone() {
        fault("rows 1;", 1, 0);
        fault("ro 1;", 1, 0);
        fault("rowrow 1;", 1, 0);
        fault("raw 1;", 1, 0);
        fault("blocks 3;", 1, 0);
        fault("tie first;", 1, 0);
        fault("weigh 0 1;", 1, 0);
        fault("row 1;x;", 1, 6);
    }

    @Says("==== 1: (a word that is none of these")
    void wordsInCapitals() {
        fault("Row 1;", 1, 0);
        fault("ROW 1;", 1, 0);
        fault("ties First;", 1, 5);
    }

    @Says("==== 1: a P at which there is no PLACE")
    void weightOfNoPlace() {
        fault("weight 0 1;", 1, 7);
        fault("row 1 2;weight 2 1;", 1, 15);
        fault("row 1 2;weight 999 1;", 1, 15);
        fault(rowOf(120) + ";weight 120 1;", 1, 251);
    }

    @Says("==== 1: the length, if more must come)")
    void textThatEndsTooSoon() {
        fault("row", 1, 3);
        fault("row 1", 1, 5);
        fault("row 1;weight", 1, 12);
        fault("row 1;weight 0", 1, 14);
        fault("row 1;weight 0 3", 1, 16);
        fault("block", 1, 5);
        fault("block 2", 1, 7);
        fault("ties", 1, 4);
        fault("ties most", 1, 9);
    }

    @Says("==== 1: the length, if more must come)")
    void lengthCountsTheBlanksAtTheEnd() {
        fault("row  \n", 1, 6);
        fault("row 1 ", 1, 6);
        fault("ties most\n\n\n", 1, 12);
    }

    @Says("==== 1: the length, if more must come)")
    void lengthIsThatOfTheTextNotOfTheTape() {
        ModeDesk x = new ModeDesk();
        Told.feed(x, "row 12 ;");
        due(x.text(5), NONE);
        due(x.fault(0), 1);
        due(x.fault(1), 5);
    }

    @Says("==== 1: 2 too much (at it): a VALUE, WEIGHT, BLOCK beyond what is said")
    void tooMuchIsAtTheNumber() {
        fault("row\n\n 0001000;", 2, 6);
        fault("row 1;weight  0   10;", 2, 18);
        fault("block    21", 2, 9);
    }

    @Says("==== 1: a 121st VALUE")
    void value121InOneLine() {
        fault(rowOf(121) + ";", 2, 244);
        fault(rowOf(121), 2, 244);
    }

    @Says("==== 1: a 121st VALUE")
    void value121InALaterLine() {
        fault(rowOf(120) + ";block 3;row 6;", 2, 256);
    }

    @Says("==== 1: 3 block, ties told already (at that word)")
    void toldAlreadyIsAtTheWord() {
        fault("block 3;row 1;\nblock;", 3, 15);
        fault("ties last;row 1;\n ties", 3, 18);
    }

    // ---- Promise 1: a new object ----

    @Says("Promise 1: No PLACES")
    void newObjectHasNoPlaces() {
        ModeDesk x = new ModeDesk();
        due(x.count(0), 0);
        due(x.count(2), 0);
        due(x.count(4), 0);
        due(x.count(5), 0);
        due(x.count(7), 0);
        due(Told.place(x, 0, 0), Told.OUT_OF_BOUNDS);
        due(x.mode(0, 0, 0), NONE);
    }

    @Says("Promise 1: BLOCK 8")
    void newObjectHasBlocksOfEight() {
        ModeDesk x = desk(1, 1, 1, 1, 1, 1, 1, 1);
        due(x.count(1), 8);
        due(x.count(2), 1);
        x.insert(8, 1);
        due(x.count(2), 2);
        due(Told.place(x, 7, 2), 0);
        due(Told.place(x, 8, 2), 1);
    }

    @Says("Promise 1: ties first")
    void newObjectRanksByFirst() {
        ModeDesk x = desk(5, 9, 3);
        due(x.count(3), 0);
        each(k -> x.ranked(0, 2, k, 0), 5, 9, 3);
    }

    @Says("Promise 1: an empty TAPE")
    void newObjectHasAnEmptyTape() {
        ModeDesk x = new ModeDesk();
        due(x.count(8), 0);
        due(x.text(1), NOT_SO_MANY);
        due(x.text(0), 0);
    }

    @Says("Promise 1: No PLACES")
    void newObjectHasNoEdits() {
        ModeDesk x = new ModeDesk();
        due(x.count(6), 0);
        due(x.undo(), NONE);
        due(x.refreshed(), NOT_SO_MANY);
        due(x.was(1, 0), NONE);
    }

    // ---- Promise 2: feed ----

    @Says("Promise 2: Twenty bytes come behind the TAPE")
    void feedsComeBehind() {
        ModeDesk x = new ModeDesk();
        due(x.feed(0x726F7720, 0x31203220, 0x33203420, 0x35203620, 0x37203820), 20);
        due(x.feed(0x39203020, 0x373B2020, 0x20202020, 0x20202020, 0x20202020), 40);
        due(x.text(40), 1);
        row(x, 1, 2, 3, 4, 5, 6, 7, 8, 9, 0, 7);
    }

    @Says("Promise 2: four of each number, the highest first")
    void bytesOfOneNumberComeHighestFirst() {
        ModeDesk x = new ModeDesk();
        // "row " "123 " "45 6" " 7;!"
        x.feed(0x726F7720, 0x31323320, 0x34352036, 0x20373B21, 0x726F7720);
        due(x.text(15), 1);
        row(x, 123, 45, 6, 7);
    }

    @Says("Promise 2: four of each number, the highest first")
    void bytesAbove127StayWithinTheirOwn() {
        ModeDesk x = new ModeDesk();
        // Each negative number is "\u00f2" and three signs more.
        x.feed(0x726F7720, 0x313B0A20, 0xF2202020, 0xFFFFFFFF, MIN);
        due(x.text(20), NONE);
        due(x.fault(0), 1);
        due(x.fault(1), 8);
        x.feed(0x726F7720, 0x313B0AFF, 0, 0, 0);
        due(x.text(8), NONE);
        due(x.fault(1), 7);
        x.feed(0x726F7720, 0x313B0AFF, 0, 0, 0);
        due(x.text(7), 1);
    }

    @Says("Promise 2: NONE, and none come, if it would have more than 900")
    void fullTape() {
        ModeDesk x = new ModeDesk();
        for (int i = 1; i <= 45; i++) {
            due("feed " + i, x.feed(0x20202020, 0x20202020, 0x20202020, 0x20202020, 0x20202020), 20 * i);
        }
        due(x.count(8), 900);
    }

    @Says("Promise 2: NONE, and none come, if it would have more than 900")
    void feedIntoAFullTape() {
        ModeDesk x = new ModeDesk();
        Told.feed(x, "row 6;" + " ".repeat(894));
        due(x.count(8), 900);
        refused(x, () -> x.feed(0x3F3F3F3F, 0x3F3F3F3F, 0x3F3F3F3F, 0x3F3F3F3F, 0x3F3F3F3F),
            () -> x.feed(0, 0, 0, 0, 0), () -> x.feed(-1, -1, -1, -1, -1));
        due(x.text(900), 1);
        row(x, 6);
    }

    @Says("Promise 2: NONE, and none come, if it would have more than 900")
    void feedAfterAFullTapeWasRead() {
        ModeDesk x = new ModeDesk();
        Told.feed(x, " ".repeat(900));
        x.text(0);
        due(x.feed(1, 2, 3, 4, 5), 20);
    }

    // ---- Promise 3: text ----

    @Says("Promise 3: The TAPE's first n bytes (it is empty then) are the TEXT")
    void textTakesTheFirstBytesAlone() {
        ModeDesk x = new ModeDesk();
        Told.feed(x, "row 12;row 3;");
        due(x.text(7), 1);
        row(x, 12);
        due(x.count(8), 0);
        due(x.text(1), NOT_SO_MANY);
    }

    @Says("Promise 3: The TAPE's first n bytes (it is empty then) are the TEXT")
    void textOfNoneOfManyBytes() {
        ModeDesk x = new ModeDesk();
        Told.feed(x, "????????????????????");
        due(x.text(0), 0);
        due(x.count(8), 0);
    }

    @Says("Promise 3: The TAPE's first n bytes (it is empty then) are the TEXT")
    void textOfAllBytes() {
        ModeDesk x = new ModeDesk();
        Told.feed(x, "row 1              ;");
        due(x.text(20), 1);
        row(x, 1);
        due(x.count(8), 0);
    }

    @Says("Promise 3: The TAPE's first n bytes (it is empty then) are the TEXT")
    void textOfAFullTape() {
        ModeDesk x = new ModeDesk();
        due(Told.feed(x, " ".repeat(893) + "row 12;"), 900);
        due(x.text(900), 1);
        row(x, 12);
    }

    @Says("Promise 3: (all anew, nothing to undo)")
    void emptyTextMakesAllAnew() {
        ModeDesk x = Told.desk(ROW + "ties most;");
        x.set(0, 1);
        x.set(1, 1);
        due(x.text(0), 0);
        each(x::count, 0, 8, 0, 0, 0, 0, 0, 0, 0);
        due(x.refreshed(), NOT_SO_MANY);
        due(x.undo(), NONE);
        due(x.was(1, 0), NONE);
        due(x.was(0, 0), NOT_SO_MANY);
    }

    @Says("Promise 3: (all anew, nothing to undo)")
    void textMakesItsOwnRow() {
        ModeDesk x = edited();
        due(Told.text(x, "row 8 8;"), 1);
        row(x, 8, 8);
        weights(x, 1, 1);
        due(x.count(6), 0);
        due(x.undo(), NONE);
        row(x, 8, 8);
        due(x.since(0), NOT_SO_MANY);
    }

    @Says("Promise 3: how many LINES")
    void linesAreThoseOfTheLatestText() {
        ModeDesk x = Told.desk("row 1;row 2;block 3;");
        due(x.count(4), 3);
        due(Told.text(x, "row 1;"), 1);
        due(x.count(4), 1);
        due(x.text(0), 0);
        due(x.count(4), 0);
    }

    @Says("Promise 3: NONE with a FAULT, all else stays")
    void refusedTextLeavesAllElse() {
        for (String text : new String[] {"row 5 6;row 1000;", "row 5;weight 0 9;?", "block 2;block 2;", "ties last;block 9;row", ";"}) {
            ModeDesk x = edited();
            String ahead = state(x);
            due(Told.text(x, text), NONE);
            String fault = " fault " + x.fault(0) + " at " + x.fault(1);
            due("all else stays: 1", state(x).replace(fault, " fault 0 at -1").equals(ahead) ? 1 : 0, 1);
        }
    }

    @Says("Promise 3: NONE with a FAULT, all else stays")
    void editsCanBeUndoneBehindARefusedText() {
        ModeDesk x = edited();
        due(Told.text(x, "row 1;row"), NONE);
        due(x.undo(), 1);
        due(x.undo(), 0);
        row(x, 4, 9, 4, 2, 9, 4, 7, 2, 2);
        weights(x, 1, 5, 1, 3, 1, 1, 1, 1, 1);
    }

    @Says("Promise 3: NONE with a FAULT, all else stays")
    void refusedTextLeavesTiesAndBlock() {
        ModeDesk x = Told.desk("row 5 6 5 6;ties last;block 2;");
        due(Told.text(x, "ties least;block 4;row ;"), NONE);
        due(x.count(1), 2);
        due(x.count(3), 1);
        due(x.mode(0, 3, 0), 6);
    }

    @Says("Promise 3: (it is empty then)")
    void refusedTextEmptiesTheTape() {
        ModeDesk x = new ModeDesk();
        Told.feed(x, "row ?");
        due(x.text(5), NONE);
        due(x.count(8), 0);
        due(x.text(1), NOT_SO_MANY);
    }

    @Says("Promise 3: -2, and the TAPE stays: there are not so many")
    void textOfMoreThanThereAre() {
        ModeDesk x = edited();
        Told.feed(x, "row 7;");
        unchanged(x, () -> {
            due(x.text(21), NOT_SO_MANY);
            due(x.text(900), NOT_SO_MANY);
            due(x.text(MAX), NOT_SO_MANY);
        });
        due(x.count(8), 20);
        due(x.text(6), 1);
        row(x, 7);
    }

    @Says("Promise 3: n is below 0")
    void textOfLessThanNone() {
        ModeDesk x = edited();
        Told.feed(x, "row 7;");
        unchanged(x, () -> {
            due(x.text(-1), NOT_SO_MANY);
            due(x.text(-20), NOT_SO_MANY);
            due(x.text(MIN), NOT_SO_MANY);
        });
        due(x.text(6), 1);
        row(x, 7);
    }

    // ---- Promise 4: fault ----

    @Says("Promise 4: ahead of any 0 and NONE")
    void faultAheadOfAnyText() {
        ModeDesk x = new ModeDesk();
        due(x.fault(0), 0);
        due(x.fault(1), NONE);
        Told.feed(x, "?");
        due(x.text(21), NOT_SO_MANY);
        due(x.fault(0), 0);
        due(x.fault(1), NONE);
    }

    @Says("Promise 4: Of the latest text() that was not -2")
    void faultStaysBehindATextOfTooMany() {
        ModeDesk x = new ModeDesk();
        due(Told.text(x, "block 21;"), NONE);
        due(x.text(1), NOT_SO_MANY);
        due(x.text(-1), NOT_SO_MANY);
        due(x.fault(0), 2);
        due(x.fault(1), 6);
    }

    @Says("Promise 4: what 0: its FAULT (0), 1: its place (NONE without)")
    void faultIsGoneBehindAGoodText() {
        ModeDesk x = new ModeDesk();
        due(Told.text(x, "block 21;"), NONE);
        due(Told.text(x, "block 20;"), 1);
        due(x.fault(0), 0);
        due(x.fault(1), NONE);
    }

    @Says("Promise 4: what 0: its FAULT (0), 1: its place (NONE without)")
    void faultIsThatOfTheLaterText() {
        ModeDesk x = new ModeDesk();
        due(Told.text(x, "ties last;ties last;"), NONE);
        due(Told.text(x, "?"), NONE);
        due(x.fault(0), 1);
        due(x.fault(1), 0);
    }

    @Says("Promise 4: what 0: its FAULT (0), 1: its place (NONE without)")
    void faultStaysBehindEdits() {
        ModeDesk x = new ModeDesk();
        due(Told.text(x, "block 21;"), NONE);
        x.insert(0, 5);
        x.undo();
        due(x.fault(0), 2);
        due(x.fault(1), 6);
    }

    @Says("Promise 4: NONE for another what")
    void faultOfNoSuchWhat() {
        ModeDesk x = new ModeDesk();
        Told.text(x, "block 21;");
        refused(x, () -> x.fault(-1), () -> x.fault(2), () -> x.fault(MIN), () -> x.fault(MAX));
    }

    // ---- Promise 5: place ----

    @Says("Promise 5: Of a PLACE, what 0 VALUE, 1 WEIGHT, 2 its BLOCK, 3 how often its VALUE stands ahead of it")
    void firstPlace() {
        ModeDesk x = Told.desk(ROW);
        each(what -> Told.place(x, 0, what), 4, 1, 0, 0, 2, NOT_SO_MANY);
    }

    @Says("Promise 5: Of a PLACE, what 0 VALUE, 1 WEIGHT, 2 its BLOCK, 3 how often its VALUE stands ahead of it")
    void lastPlace() {
        ModeDesk x = Told.desk(ROW);
        each(what -> Told.place(x, 8, what), 2, 1, 2, 2, NOT_SO_MANY, 7);
    }

    @Says("Promise 5: Of a PLACE, what 0 VALUE, 1 WEIGHT, 2 its BLOCK, 3 how often its VALUE stands ahead of it")
    void onlyPlace() {
        ModeDesk x = desk(999);
        each(what -> Told.place(x, 0, what), 999, 1, 0, 0, NOT_SO_MANY, NOT_SO_MANY);
    }

    @Says("Promise 5: 2 its BLOCK, 3 how often its VALUE stands ahead of it")
    void lastPlaceOfAFullRow() {
        ModeDesk x = full(p -> 6, "block 2;weight 119 9;");
        each(what -> Told.place(x, 119, what), 6, 9, 59, 119, NOT_SO_MANY, 118);
    }

    @Says("Promise 5: 4 the next PLACE with its VALUE (-2: none)")
    void placeWithoutANextOne() {
        ModeDesk x = desk(1, 2, 1);
        each(p -> Told.place(x, p, 4), 2, NOT_SO_MANY, NOT_SO_MANY);
    }

    @Says("Promise 5: 4 the next PLACE with its VALUE (-2: none), 5 the one ahead (-2: none)")
    void nextPlaceIsTheNeighbour() {
        ModeDesk x = desk(6, 6, 6);
        each(p -> Told.place(x, p, 4), 1, 2, NOT_SO_MANY);
        each(p -> Told.place(x, p, 5), NOT_SO_MANY, 0, 1);
    }

    @Says("Promise 5: 4 the next PLACE with its VALUE (-2: none)")
    void nextPlaceAtTheFarEnd() {
        ModeDesk x = full(p -> p == 0 || p == 119 ? 7 : 8, "");
        due(Told.place(x, 0, 4), 119);
        due(Told.place(x, 119, 5), 0);
    }

    @Says("Promise 5: 5 the one ahead (-2: none)")
    void placeWithoutOneAhead() {
        ModeDesk x = desk(1, 2, 1);
        each(p -> Told.place(x, p, 5), NOT_SO_MANY, NOT_SO_MANY, 0);
    }

    @Says("Promise 5: IndexOutOfBoundsException: no such PLACE")
    void noSuchPlace() {
        ModeDesk x = edited();
        unchanged(x, () -> {
            for (int p : new int[] {-1, 9, 120, -2, MIN, MAX}) {
                due("place(" + p + ", 0)", Told.place(x, p, 0), Told.OUT_OF_BOUNDS);
            }
        });
    }

    @Says("Promise 5: IndexOutOfBoundsException: no such PLACE")
    void noPlaceOfAnEmptyRow() {
        due(Told.place(new ModeDesk(), 0, 0), Told.OUT_OF_BOUNDS);
    }

    @Says("Promise 5: IndexOutOfBoundsException: no such PLACE")
    void noPlace120OfAFullRow() {
        ModeDesk x = full(p -> 5, "");
        due(Told.place(x, 119, 0), 5);
        due(Told.place(x, 120, 0), Told.OUT_OF_BOUNDS);
    }

    @Says("Promise 5: IndexOutOfBoundsException: no such PLACE")
    void noPlaceThatWasRemoved() {
        ModeDesk x = desk(5, 6);
        x.remove(0);
        due(Told.place(x, 1, 0), Told.OUT_OF_BOUNDS);
    }

    @Says("Promise 5: NoSuchElementException: no such what")
    void placeOfNoSuchWhat() {
        ModeDesk x = edited();
        unchanged(x, () -> {
            for (int what : new int[] {-1, 6, MIN, MAX}) {
                due("place(0, " + what + ")", Told.place(x, 0, what), Told.NO_SUCH_ELEMENT);
            }
        });
    }

    @Says("==== 4: IndexOutOfBoundsException ahead of NoSuchElementException")
    void noSuchPlaceGoesAheadOfNoSuchWhat() {
        ModeDesk x = edited();
        due(Told.place(x, -1, -1), Told.OUT_OF_BOUNDS);
        due(Told.place(x, 9, 6), Told.OUT_OF_BOUNDS);
        due(Told.place(new ModeDesk(), 0, 6), Told.OUT_OF_BOUNDS);
        due(Told.place(new ModeDesk(), MIN, MAX), Told.OUT_OF_BOUNDS);
    }

    // ---- Promise 56: count ----

    @Says("Promise 56: 0 PLACES")
    void placesOfAFullRow() {
        due(full(p -> p, "").count(0), 120);
    }

    @Says("Promise 56: 2 BLOCKS")
    void blocksAtTheirEdges() {
        due(Told.desk("block 2;").count(2), 0);
        due(Told.desk("block 2;row 1;").count(2), 1);
        due(Told.desk("block 2;row 1 1;").count(2), 1);
        due(Told.desk("block 2;row 1 1 1;").count(2), 2);
        due(full(p -> 1, "block 2;").count(2), 60);
        due(full(p -> 1, "block 20;").count(2), 6);
        due(full(p -> 1, "block 7;").count(2), 18);
    }

    @Says("Promise 56: 3 TIES (0 first .. 3 most), 4 LINES")
    void tiesAndLinesOfTheText() {
        ModeDesk x = Told.desk("ties most;row 1;");
        due(x.count(3), 3);
        due(x.count(4), 2);
        x.remove(0);
        due(x.count(3), 3);
        due(x.count(4), 2);
    }

    @Says("Promise 56: 5 unlike VALUES in all")
    void unlikeValuesOfEmptyAndFullRows() {
        due(new ModeDesk().count(5), 0);
        due(full(p -> 7, "").count(5), 1);
        due(full(p -> p, "").count(5), 120);
    }

    @Says("Promise 56: 6 EDITS that can be undone")
    void editsUpToTwelve() {
        ModeDesk x = new ModeDesk();
        for (int i = 1; i <= 14; i++) {
            x.insert(0, 5);
            due("edits", x.count(6), Math.min(i, 12));
        }
    }

    @Says("Promise 56: 7 all WEIGHTS together")
    void weightsOfEmptyAndFullRows() {
        due(new ModeDesk().count(7), 0);
        due(full(p -> 5, "").count(7), 120);
        due(full(p -> 5, "weight 0 9;weight 119 9;").count(7), 136);
    }

    @Says("Promise 56: 8 bytes of the TAPE")
    void bytesOfTheTape() {
        ModeDesk x = new ModeDesk();
        x.feed(0, 0, 0, 0, 0);
        due(x.count(8), 20);
        x.text(21);
        due(x.count(8), 20);
        x.text(0);
        due(x.count(8), 0);
    }

    @Says("Promise 56: NONE for another what")
    void countOfNoSuchWhat() {
        ModeDesk x = edited();
        refused(x, () -> x.count(-1), () -> x.count(9), () -> x.count(MIN), () -> x.count(MAX));
    }
}
