/** Boundary cases of the edits, of what they refresh, of undoing them and of what was. */
public final class EditBoundaryTest extends Cases {
    public static void main(String[] args) throws ReflectiveOperationException {
        run(EditBoundaryTest.class);
    }

    /** An edit by which nothing is other: it answers as it should and leaves all as it is. */
    private void noEdit(ModeDesk x, java.util.function.IntSupplier call, int want) {
        unchanged(x, () -> due(call.getAsInt(), want));
    }

    private static ModeDesk empty() {
        return new ModeDesk();
    }

    private static int bit(boolean b) {
        return b ? 1 : 0;
    }

    // ---- Promise 6: set ----

    @Says("Promise 6: Which VALUE it was")
    void setOfFirstAndLastPlace() {
        ModeDesk x = Told.desk(ROW);
        due(x.set(0, 8), 4);
        due(x.set(8, 6), 2);
        row(x, 8, 9, 4, 2, 9, 4, 7, 2, 6);
        due(x.count(6), 2);
    }

    @Says("Promise 6: Which VALUE it was")
    void setToLeastAndGreatestValue() {
        ModeDesk x = desk(5, 6);
        due(x.set(0, 0), 5);
        due(x.set(1, 999), 6);
        row(x, 0, 999);
        due(x.set(0, 1), 0);
        due(x.set(1, 1), 999);
    }

    @Says("==== 3: EDITS: set: a PLACE has a VALUE")
    void setLeavesTheWeight() {
        ModeDesk x = Told.desk("row 5 6;weight 0 7;");
        x.set(0, 9);
        weights(x, 7, 1);
    }

    @Says("Promise 6: NONE: no such PLACE")
    void setOfNoSuchPlace() {
        ModeDesk x = edited();
        refused(x, () -> x.set(-1, 5), () -> x.set(9, 5), () -> x.set(120, 5), () -> x.set(MIN, 5), () -> x.set(MAX, 5));
    }

    @Says("Promise 6: NONE: no such PLACE")
    void setInAnEmptyRow() {
        ModeDesk x = empty();
        refused(x, () -> x.set(0, 5), () -> x.set(-1, 5));
    }

    @Says("Promise 6: NONE: no such PLACE, VALUE")
    void setToNoSuchValue() {
        ModeDesk x = edited();
        refused(x, () -> x.set(0, -1), () -> x.set(0, 1000), () -> x.set(0, MIN), () -> x.set(0, MAX));
    }

    // ---- Promise 7: weigh ----

    @Says({"Promise 7: Which WEIGHT it was", "==== 3: weigh: a PLACE has a WEIGHT"})
    void weighFirstAndLastPlace() {
        ModeDesk x = Told.desk("row 5 6 7;weight 0 4;weight 2 8;");
        due(x.weigh(0, 1), 4);
        due(x.weigh(2, 9), 8);
        weights(x, 1, 1, 9);
        row(x, 5, 6, 7);
    }

    @Says("Promise 7: NONE: no such PLACE")
    void weighNoSuchPlace() {
        ModeDesk x = edited();
        refused(x, () -> x.weigh(-1, 5), () -> x.weigh(9, 5), () -> x.weigh(120, 5), () -> x.weigh(MIN, 5), () -> x.weigh(MAX, 5));
    }

    @Says("Promise 7: NONE: no such PLACE")
    void weighInAnEmptyRow() {
        ModeDesk x = empty();
        refused(x, () -> x.weigh(0, 1));
    }

    @Says("Promise 7: NONE: no such PLACE, WEIGHT")
    void weighByTooLittle() {
        ModeDesk x = edited();
        refused(x, () -> x.weigh(0, 0), () -> x.weigh(0, -1), () -> x.weigh(0, MIN));
    }

    @Says("Promise 7: NONE: no such PLACE, WEIGHT")
    void weighByTooMuch() {
        ModeDesk x = edited();
        refused(x, () -> x.weigh(0, 10), () -> x.weigh(0, 999), () -> x.weigh(0, MAX));
    }

    // ---- Promise 8: insert ----

    @Says("Promise 8: How many PLACES there are then")
    void insertIntoAnEmptyRow() {
        ModeDesk x = empty();
        due(x.insert(0, 999), 1);
        row(x, 999);
        weights(x, 1);
    }

    @Says("==== 3: insert: a VALUE of WEIGHT 1 comes to a PLACE, those from there on one PLACE further")
    void insertAheadOfAll() {
        ModeDesk x = Told.desk("row 5 6;weight 0 7;weight 1 3;");
        due(x.insert(0, 0), 3);
        row(x, 0, 5, 6);
        weights(x, 1, 7, 3);
    }

    @Says("==== 3: (also behind all)")
    void insertBehindAll() {
        ModeDesk x = Told.desk("row 5 6;weight 0 7;weight 1 3;");
        due(x.insert(2, 8), 3);
        row(x, 5, 6, 8);
        weights(x, 7, 3, 1);
    }

    @Says("==== 3: insert: a VALUE of WEIGHT 1 comes to a PLACE")
    void insertWhereAHeavyPlaceWas() {
        ModeDesk x = Told.desk("row 5 6;weight 0 7;weight 1 9;");
        x.remove(1);
        due(x.insert(1, 6), 2);
        weights(x, 7, 1);
    }

    @Says("==== 3: insert: a VALUE of WEIGHT 1 comes to a PLACE")
    void insertAmongLikeValuesIsAnEdit() {
        ModeDesk x = desk(5, 5);
        x.insert(1, 5);
        due(x.count(6), 3);
        due(x.undo(), 2);
        row(x, 5, 5);
    }

    @Says("Promise 8: NONE: no such PLACE (0 to how many there are)")
    void insertAtNoSuchPlace() {
        ModeDesk x = edited();
        refused(x, () -> x.insert(-1, 5), () -> x.insert(10, 5), () -> x.insert(120, 5), () -> x.insert(MIN, 5), () -> x.insert(MAX, 5));
        ModeDesk y = empty();
        refused(y, () -> y.insert(1, 5), () -> y.insert(-1, 5));
    }

    @Says("Promise 8: NONE: no such PLACE (0 to how many there are), VALUE")
    void insertOfNoSuchValue() {
        ModeDesk x = edited();
        refused(x, () -> x.insert(0, -1), () -> x.insert(0, 1000), () -> x.insert(9, 1000), () -> x.insert(0, MIN), () -> x.insert(0, MAX));
    }

    @Says("Promise 8: there are 120")
    void insertIntoAFullRow() {
        ModeDesk x = full(p -> p, "");
        for (int p : new int[] {0, 60, 119, 120, 121}) {
            due("insert(" + p + ", 5)", x.insert(p, 5), NONE);
        }
        due(x.count(0), 120);
        due(x.count(6), 0);
        due(x.refreshed(), NOT_SO_MANY);
        each(p -> Told.place(x, p, 0), 0, 1, 2);
        due(Told.place(x, 119, 0), 119);
    }

    @Says("Promise 8: there are 120")
    void insertIntoARowThatIsAlmostFull() {
        ModeDesk x = full(p -> p, "");
        x.remove(119);
        due(x.insert(0, 500), 120);
        due(Told.place(x, 0, 0), 500);
        due(Told.place(x, 119, 0), 118);
        due(x.insert(0, 500), NONE);
        x.undo();
        due(x.insert(119, 501), 120);
        due(Told.place(x, 119, 0), 501);
    }

    // ---- Promise 9: remove ----

    @Says("==== 3: remove: a PLACE goes, those behind it one PLACE nearer")
    void removeTheFirstPlace() {
        ModeDesk x = Told.desk("row 5 6 7;weight 1 7;weight 2 3;");
        due(x.remove(0), 5);
        row(x, 6, 7);
        weights(x, 7, 3);
    }

    @Says("Promise 9: Which VALUE it was")
    void removeTheLastPlace() {
        ModeDesk x = Told.desk("row 5 6 7;weight 1 7;weight 2 3;");
        due(x.remove(2), 7);
        row(x, 5, 6);
        weights(x, 1, 7);
    }

    @Says("Promise 9: Which VALUE it was")
    void removeTheOnlyPlace() {
        ModeDesk x = Told.desk("row 0;");
        due(x.remove(0), 0);
        due(x.count(0), 0);
        due(x.count(6), 1);
        due(x.mode(0, 0, 0), NONE);
    }

    @Says("Promise 9: Which VALUE it was")
    void removeFromAFullRow() {
        ModeDesk x = full(p -> p, "");
        due(x.remove(0), 0);
        due(x.count(0), 119);
        due(Told.place(x, 118, 0), 119);
        due(x.remove(118), 119);
        due(x.count(0), 118);
    }

    @Says("==== 3: remove: a PLACE goes")
    void removeFromLikeValuesIsAnEdit() {
        ModeDesk x = Told.desk("row 5 5 5;");
        x.remove(1);
        due(x.count(6), 1);
        due(x.undo(), 0);
        row(x, 5, 5, 5);
    }

    @Says("Promise 9: NONE: no such PLACE")
    void removeNoSuchPlace() {
        ModeDesk x = edited();
        refused(x, () -> x.remove(-1), () -> x.remove(9), () -> x.remove(120), () -> x.remove(MIN), () -> x.remove(MAX));
    }

    @Says("Promise 9: NONE: no such PLACE")
    void removeFromAnEmptyRow() {
        ModeDesk x = empty();
        refused(x, () -> x.remove(0), () -> x.remove(-1));
    }

    // ---- Promise 10: fill ----

    @Says("Promise 10: How many PLACES have another VALUE")
    void fillOnePlace() {
        ModeDesk x = Told.desk("row 5 6 7;");
        due(x.fill(2, 2, 0), 1);
        row(x, 5, 6, 0);
    }

    @Says("==== 3: fill: all PLACES of a SPAN have a VALUE")
    void fillAllPlaces() {
        ModeDesk x = Told.desk("row 5 6 7;weight 1 4;");
        due(x.fill(0, 2, 6), 2);
        row(x, 6, 6, 6);
        weights(x, 1, 4, 1);
    }

    @Says("Promise 10: How many PLACES have another VALUE")
    void fillAFullRow() {
        ModeDesk x = full(p -> p, "");
        due(x.fill(0, 119, 999), 120);
        due(x.often(0, 119, 999), 120);
    }

    @Says("Promise 10: NONE: no such SPAN")
    void fillNoSuchSpan() {
        ModeDesk x = edited();
        noSpan(x, (l, r) -> x.fill(l, r, 5));
        ModeDesk y = empty();
        refused(y, () -> y.fill(0, 0, 5), () -> y.fill(0, -1, 5));
    }

    @Says("Promise 10: NONE: no such SPAN, VALUE")
    void fillWithNoSuchValue() {
        ModeDesk x = edited();
        refused(x, () -> x.fill(0, 8, -1), () -> x.fill(0, 8, 1000), () -> x.fill(3, 3, MIN), () -> x.fill(3, 3, MAX));
    }

    // ---- Promise 11: swap ----

    @Says("==== 3: swap: two PLACES change VALUES and WEIGHTS")
    void swapFirstAndLastPlace() {
        ModeDesk x = Told.desk(ROW + "weight 8 6;");
        due(x.swap(8, 0), true);
        row(x, 2, 9, 4, 2, 9, 4, 7, 2, 4);
        weights(x, 6, 5, 1, 3, 1, 1, 1, 1, 1);
        due(x.swap(0, 8), true);
        row(x, 4, 9, 4, 2, 9, 4, 7, 2, 2);
        due(x.count(6), 2);
    }

    @Says("Promise 11: True")
    void swapOfPlacesThatAreAlike() {
        ModeDesk x = edited();
        noEdit(x, () -> bit(x.swap(2, 5)), 1);
        // Of like values, but of unlike weights: 2 and 1.
        due(x.swap(0, 2), true);
        due(x.count(6), 3);
        weights(x, 1, 5, 2);
    }

    @Says("Promise 11: false: no such PLACES")
    void swapOfNoSuchPlaces() {
        ModeDesk x = edited();
        unchanged(x, () -> {
            for (int p : new int[] {-1, 9, 120, MIN, MAX}) {
                due(x.swap(p, 0), false);
                due(x.swap(0, p), false);
                due(x.swap(p, p), false);
            }
        });
        due(empty().swap(0, 1), false);
        due(empty().swap(0, 0), false);
    }

    @Says("Promise 11: one and the same")
    void swapOfOneAndTheSame() {
        ModeDesk x = edited();
        unchanged(x, () -> {
            due(x.swap(0, 0), false);
            due(x.swap(8, 8), false);
        });
    }

    // ---- Promise 12: flip ----

    @Says("==== 3: flip: a SPAN stands the other way round (WEIGHTS, too)")
    void flipAllPlaces() {
        ModeDesk x = Told.desk(ROW);
        // 4 9 4 2 9 4 7 2 2 against 2 2 7 4 9 2 4 9 4: place 4 alone is as it was.
        due(x.flip(0, 8), 8);
        row(x, 2, 2, 7, 4, 9, 2, 4, 9, 4);
        weights(x, 1, 1, 1, 1, 1, 3, 1, 5, 1);
    }

    @Says("==== 3: flip: a SPAN stands the other way round (WEIGHTS, too)")
    void flipAnEvenSpan() {
        ModeDesk x = desk(1, 2, 3, 4, 5, 6);
        due(x.flip(1, 4), 4);
        row(x, 1, 5, 4, 3, 2, 6);
    }

    @Says("Promise 12: How many PLACES have another VALUE")
    void flipTwoPlaces() {
        ModeDesk x = desk(1, 2);
        due(x.flip(0, 1), 2);
        row(x, 2, 1);
    }

    @Says("Promise 12: How many PLACES have another VALUE")
    void flipOfWeightsAlone() {
        ModeDesk x = Told.desk("row 5 5;weight 0 2;");
        due(x.flip(0, 1), 0);
        due(x.count(6), 1);
        due(x.refreshed(), 0);
        weights(x, 1, 2);
    }

    @Says("Promise 12: How many PLACES have another VALUE")
    void flipAFullRow() {
        ModeDesk x = full(p -> p, "");
        due(x.flip(0, 119), 120);
        each(p -> Told.place(x, p, 0), 119, 118, 117);
        due(Told.place(x, 119, 0), 0);
    }

    @Says("Promise 12: NONE: no such SPAN")
    void flipNoSuchSpan() {
        ModeDesk x = edited();
        noSpan(x, x::flip);
        ModeDesk y = empty();
        refused(y, () -> y.flip(0, 0), () -> y.flip(0, -1));
    }

    // ---- Promise 13: shift ----

    @Says("==== 3: shift: in a SPAN each VALUE and WEIGHT comes k PLACES further on")
    void shiftByOne() {
        ModeDesk x = Told.desk("row 1 2 3 4 5;weight 1 6;weight 3 8;");
        due(x.shift(1, 3, 1), 3);
        row(x, 1, 4, 2, 3, 5);
        weights(x, 1, 8, 6, 1, 1);
    }

    @Says("==== 3: those that would be beyond it come in at its beginning")
    void shiftByAllButOne() {
        ModeDesk x = Told.desk("row 1 2 3 4 5;weight 0 6;weight 4 8;");
        due(x.shift(0, 4, 4), 5);
        row(x, 2, 3, 4, 5, 1);
        weights(x, 1, 1, 1, 8, 6);
    }

    @Says("==== 3: those that would be beyond it come in at its beginning")
    void shiftByMoreThanHalf() {
        ModeDesk x = desk(1, 2, 3, 4, 5);
        due(x.shift(0, 4, 3), 5);
        row(x, 3, 4, 5, 1, 2);
    }

    @Says("==== 3: those that would be beyond it come in at its beginning")
    void shiftAFullRow() {
        ModeDesk x = full(p -> p, "weight 119 9;");
        due(x.shift(0, 119, 1), 120);
        each(p -> Told.place(x, p, 0), 119, 0, 1);
        due(Told.place(x, 0, 1), 9);
        due(Told.place(x, 119, 0), 118);
        due(x.shift(0, 119, 119), 120);
        due(Told.place(x, 0, 0), 0);
        due(Told.place(x, 119, 1), 9);
    }

    @Says("Promise 13: How many PLACES have another VALUE")
    void shiftWithSomeAsTheyWere() {
        ModeDesk x = desk(5, 5, 6, 6);
        due(x.shift(0, 3, 1), 2);
        row(x, 6, 5, 5, 6);
    }

    @Says("Promise 13: k not from 0 to as many PLACES as it has")
    void shiftByNoneAndByAll() {
        ModeDesk x = edited();
        noEdit(x, () -> x.shift(0, 8, 0), 0);
        noEdit(x, () -> x.shift(0, 8, 9), 0);
        ModeDesk y = edited();
        noEdit(y, () -> y.shift(4, 4, 0), 0);
        noEdit(y, () -> y.shift(4, 4, 1), 0);
    }

    @Says("Promise 13: k not from 0 to as many PLACES as it has")
    void shiftByTooLittleOrTooMuch() {
        ModeDesk x = edited();
        refused(x, () -> x.shift(0, 8, -1), () -> x.shift(0, 8, 10), () -> x.shift(0, 8, MIN), () -> x.shift(0, 8, MAX),
            () -> x.shift(4, 5, 3), () -> x.shift(4, 4, 2), () -> x.shift(4, 4, -1));
    }

    @Says("Promise 13: NONE: no such SPAN")
    void shiftNoSuchSpan() {
        ModeDesk x = edited();
        noSpan(x, (l, r) -> x.shift(l, r, 0));
        noSpan(Told.desk(ROW), (l, r) -> x.shift(l, r, 1));
        ModeDesk y = empty();
        refused(y, () -> y.shift(0, 0, 0), () -> y.shift(0, -1, 0));
    }

    // ---- Promise 14: replace ----

    @Says("==== 3: replace: all VALUES that are v become w")
    void replaceAtBothEnds() {
        ModeDesk x = Told.desk("row 0 5 999 0;weight 3 4;");
        due(x.replace(0, 999), 2);
        row(x, 999, 5, 999, 999);
        weights(x, 1, 1, 1, 4);
        due(x.replace(999, 0), 3);
        row(x, 0, 5, 0, 0);
    }

    @Says("==== 3: replace: all VALUES that are v become w")
    void replaceInAFullRow() {
        ModeDesk x = full(p -> 5, "");
        due(x.replace(5, 6), 120);
        due(x.often(0, 119, 6), 120);
    }

    @Says("Promise 14: How many PLACES have another VALUE")
    void replaceOfAValueThatStandsNowhere() {
        ModeDesk x = edited();
        noEdit(x, () -> x.replace(8, 4), 0);
        noEdit(x, () -> x.replace(8, 8), 0);
        due(empty().replace(0, 999), 0);
    }

    @Says("Promise 14: How many PLACES have another VALUE")
    void replaceByItself() {
        ModeDesk x = edited();
        noEdit(x, () -> x.replace(4, 4), 0);
    }

    @Says("Promise 14: NONE: no such VALUES")
    void replaceOfNoSuchValue() {
        ModeDesk x = edited();
        refused(x, () -> x.replace(-1, 4), () -> x.replace(1000, 4), () -> x.replace(MIN, 4), () -> x.replace(MAX, 4));
    }

    @Says("Promise 14: NONE: no such VALUES")
    void replaceByNoSuchValue() {
        ModeDesk x = edited();
        refused(x, () -> x.replace(4, -1), () -> x.replace(4, 1000), () -> x.replace(4, MIN), () -> x.replace(4, MAX),
            () -> x.replace(8, 1000), () -> x.replace(-1, -1), () -> x.replace(1000, 1000));
    }

    @Says("Promise 14: NONE: no such VALUES")
    void replaceOfNoSuchValueInAnEmptyRow() {
        ModeDesk x = empty();
        refused(x, () -> x.replace(0, 1000), () -> x.replace(-1, 0));
    }

    // ---- Promise 15: sort ----

    @Says("==== 3: sort: VALUES of a SPAN (each with its WEIGHT) rise, or fall")
    void sortAllPlaces() {
        ModeDesk x = Told.desk(ROW);
        due(x.sort(0, 8, true), 7);
        row(x, 2, 2, 2, 4, 4, 4, 7, 9, 9);
        weights(x, 3, 1, 1, 1, 1, 1, 1, 5, 1);
        // The three in the midst are as they were.
        due(x.sort(0, 8, false), 6);
        row(x, 9, 9, 7, 4, 4, 4, 2, 2, 2);
        weights(x, 5, 1, 1, 1, 1, 1, 3, 1, 1);
    }

    @Says("==== 3: of like ones as they stood")
    void sortLeavesLikeOnesAsTheyStood() {
        String row = "row 5 3 5 3 5;weight 0 1;weight 1 2;weight 2 3;weight 3 4;weight 4 5;";
        ModeDesk x = Told.desk(row);
        x.sort(0, 4, true);
        weights(x, 2, 4, 1, 3, 5);
        ModeDesk y = Told.desk(row);
        y.sort(0, 4, false);
        weights(y, 1, 3, 5, 2, 4);
    }

    @Says("Promise 15: How many PLACES have another VALUE")
    void sortOfASortedSpan() {
        ModeDesk x = edited();
        noEdit(x, () -> x.sort(6, 7, false), 0);
        noEdit(x, () -> x.sort(3, 4, true), 0);
        ModeDesk y = edited();
        noEdit(y, () -> y.sort(5, 5, true), 0);
        noEdit(y, () -> y.sort(5, 5, false), 0);
    }

    @Says("Promise 15: How many PLACES have another VALUE")
    void sortAFullRow() {
        ModeDesk x = full(p -> 119 - p, "weight 0 9;");
        due(x.sort(0, 119, true), 120);
        each(p -> Told.place(x, p, 0), 0, 1, 2);
        due(Told.place(x, 119, 1), 9);
        due(x.sort(0, 119, false), 120);
        due(Told.place(x, 0, 1), 9);
    }

    @Says("Promise 15: NONE: no such SPAN")
    void sortNoSuchSpan() {
        ModeDesk x = edited();
        noSpan(x, (l, r) -> x.sort(l, r, true));
        ModeDesk y = edited();
        noSpan(y, (l, r) -> y.sort(l, r, false));
        ModeDesk z = empty();
        refused(z, () -> z.sort(0, 0, true), () -> z.sort(0, -1, false));
    }

    // ---- ==== 3: an edit that is none ----

    @Says("==== 3: An EDIT by which nothing is other (no VALUE, no WEIGHT) is none")
    void setAndWeighAndFillOfWhatIs() {
        ModeDesk x = edited();
        noEdit(x, () -> x.set(0, 4), 4);
        noEdit(x, () -> x.weigh(1, 5), 5);
        noEdit(x, () -> x.fill(7, 7, 2), 0);
    }

    @Says("==== 3: An EDIT by which nothing is other (no VALUE, no WEIGHT) is none")
    void flipAndShiftOfWhatIs() {
        ModeDesk x = Told.desk("row 5 6 5 6 5;");
        x.weigh(0, 3);
        x.weigh(0, 1);
        noEdit(x, () -> x.flip(0, 4), 0);
        noEdit(x, () -> x.flip(2, 2), 0);
        noEdit(x, () -> x.shift(0, 3, 2), 0);
    }

    @Says("==== 3: An EDIT by which nothing is other (no VALUE, no WEIGHT) is none")
    void weightsAloneMakeAnEdit() {
        ModeDesk x = Told.desk("row 5 5 5;weight 0 4;");
        due(x.shift(0, 2, 1), 0);
        weights(x, 1, 4, 1);
        due(x.swap(1, 2), true);
        weights(x, 1, 1, 4);
        due(x.flip(0, 2), 0);
        weights(x, 4, 1, 1);
        due(x.weigh(0, 5), 4);
        due(x.count(6), 4);
        each(k -> x.undo(), 3, 2, 1, 0);
        weights(x, 4, 1, 1);
    }

    @Says("==== 3: An EDIT by which nothing is other (no VALUE, no WEIGHT) is none")
    void noEditForgetsNoneOfTwelve() {
        ModeDesk x = Told.desk("row 5;");
        for (int i = 0; i < 12; i++) {
            x.set(0, 100 + i);
        }
        for (int i = 0; i < 5; i++) {
            due(x.set(0, 111), 111);
        }
        due(x.count(6), 12);
        due(x.was(12, 0), 5);
    }

    // ---- Promise 16: refreshed ----

    @Says("Promise 16: -2: there was none since the TEXT")
    void refreshedAheadOfAnyEdit() {
        due(empty().refreshed(), NOT_SO_MANY);
        due(Told.desk(ROW).refreshed(), NOT_SO_MANY);
    }

    @Says("Promise 16: -2: there was none since the TEXT")
    void refreshedBehindAnEditThatIsNone() {
        ModeDesk x = Told.desk(ROW);
        x.set(0, 4);
        x.swap(1, 1);
        x.undo();
        x.set(9, 4);
        due(x.refreshed(), NOT_SO_MANY);
    }

    @Says("Promise 16: -2: there was none since the TEXT")
    void refreshedBehindAnotherText() {
        ModeDesk x = edited();
        due(x.refreshed(), 3);
        Told.text(x, "row ?;");
        due(x.refreshed(), 3);
        x.text(0);
        due(x.refreshed(), NOT_SO_MANY);
    }

    @Says("Promise 16: How many PAIRS the latest EDIT (undo() is one) REFRESHES")
    void refreshedByUndo() {
        ModeDesk x = Told.desk("row 1 2 3 4 5 6;block 2;");
        x.set(0, 9);
        due(x.refreshed(), 3);
        x.set(2, 9);
        due(x.refreshed(), 4);
        x.undo();
        due(x.refreshed(), 4);
        x.undo();
        due(x.refreshed(), 3);
        due(x.undo(), NONE);
        due(x.refreshed(), 3);
    }

    @Says("==== 2: An EDIT REFRESHES those PAIRS there are behind it in which a PLACE has another VALUE than ahead of it")
    void refreshedBySetOfEachBlock() {
        // Four blocks: block b is in (b and 1) times (4 less b) pairs.
        int[] want = {4, 6, 6, 4};
        for (int b = 0; b < 4; b++) {
            ModeDesk x = Told.desk("row 1 2 3 4 5 6 7;block 2;");
            x.set(2 * b, 99);
            due("set in block " + b, x.refreshed(), want[b]);
        }
    }

    @Says("==== 2: in which a PLACE has another VALUE than ahead of it")
    void refreshedByWeightsAlone() {
        ModeDesk x = Told.desk("row 5 5 5 5;block 2;");
        x.weigh(0, 9);
        due(x.refreshed(), 0);
        x.swap(0, 3);
        due(x.refreshed(), 0);
        x.undo();
        due(x.refreshed(), 0);
    }

    @Says("==== 2: in which a PLACE has another VALUE than ahead of it")
    void refreshedByAnEditOfBothEnds() {
        ModeDesk x = Told.desk("row 1 2 3 4 5 6 7 8;block 2;");
        x.swap(0, 7);
        // Of ten pairs of four blocks all but 1-1, 1-2, 2-2.
        due(x.refreshed(), 7);
    }

    @Says("==== 2: in which a PLACE has another VALUE than ahead of it")
    void refreshedInAFullRow() {
        ModeDesk x = full(p -> p, "block 2;");
        x.set(0, 500);
        due(x.refreshed(), 60);
        x.set(60, 500);
        due(x.refreshed(), 31 * 30);
        x.set(119, 500);
        due(x.refreshed(), 60);
        x.fill(0, 119, 7);
        due(x.refreshed(), 1830);
    }

    @Says("==== 2: (or there was none)")
    void refreshedByTheFirstPlaceOfABlock() {
        ModeDesk x = Told.desk("row 5 5 5 5;block 2;");
        x.insert(4, 5);
        due(x.refreshed(), 3);
    }

    @Says("==== 2: (or there was none)")
    void refreshedByOnePlaceMoreInABlock() {
        ModeDesk x = Told.desk("row 5 5 5;block 2;");
        x.insert(0, 5);
        due(x.refreshed(), 2);
    }

    @Says("==== 2: (or there was none)")
    void refreshedByTheFirstPlaceOfAll() {
        ModeDesk x = empty();
        x.insert(0, 0);
        due(x.refreshed(), 1);
    }

    @Says("==== 2: or of which a BLOCK has fewer PLACES than ahead")
    void refreshedByABlockWithFewerPlaces() {
        ModeDesk x = Told.desk("row 5 5 5 5 5 5;block 2;");
        x.remove(0);
        due(x.refreshed(), 3);
    }

    @Says("==== 2: those PAIRS there are behind it")
    void refreshedByABlockThatIsGone() {
        ModeDesk x = Told.desk("row 5 5 5;block 2;");
        x.remove(0);
        due(x.refreshed(), 0);
    }

    @Says("==== 2: those PAIRS there are behind it")
    void refreshedByTheLastPlaceGone() {
        ModeDesk x = Told.desk("row 5;");
        x.remove(0);
        due(x.refreshed(), 0);
        x.undo();
        due(x.refreshed(), 1);
    }

    @Says("==== 2: those PAIRS there are behind it")
    void refreshedByUndoOfAnInsert() {
        ModeDesk x = Told.desk("row 1 2 3 4;block 2;");
        x.insert(1, 1);
        // 1 1 | 2 3 | 4: five of six pairs hold another value from place 1 on, and so does the sixth.
        due(x.refreshed(), 6);
        x.undo();
        due(x.refreshed(), 3);
    }

    // ---- Promise 17: undo ----

    @Says("Promise 17: NONE: there is none")
    void undoOfNothing() {
        ModeDesk x = empty();
        refused(x, x::undo);
        ModeDesk y = Told.desk(ROW);
        refused(y, y::undo);
    }

    @Says("Promise 17: NONE: there is none")
    void undoOfMoreThanThereWas() {
        ModeDesk x = edited();
        due(x.undo(), 1);
        due(x.undo(), 0);
        refused(x, x::undo, x::undo);
        row(x, 4, 9, 4, 2, 9, 4, 7, 2, 2);
        weights(x, 1, 5, 1, 3);
    }

    @Says("Promise 17: The latest EDIT is undone: how many more can be")
    void undoOfEachEdit() {
        ModeDesk x = Told.desk(ROW);
        x.set(0, 1);
        x.weigh(0, 9);
        x.insert(4, 8);
        x.remove(9);
        x.fill(2, 6, 7);
        x.swap(0, 8);
        x.flip(0, 3);
        x.shift(1, 8, 3);
        x.replace(7, 4);
        x.sort(0, 8, false);
        due(x.count(6), 10);
        each(i -> x.undo(), 9, 8, 7, 6, 5, 4, 3, 2, 1, 0);
        row(x, 4, 9, 4, 2, 9, 4, 7, 2, 2);
        weights(x, 1, 5, 1, 3, 1, 1, 1, 1, 1);
    }

    @Says("==== 3: The latest 12 can be undone, the latest first")
    void undoOfTwelve() {
        ModeDesk x = Told.desk("row 5;");
        for (int i = 1; i <= 12; i++) {
            x.set(0, 100 + i);
        }
        for (int i = 11; i >= 0; i--) {
            due(x.undo(), i);
            due(Told.place(x, 0, 0), i == 0 ? 5 : 100 + i);
        }
        due(x.undo(), NONE);
    }

    @Says("==== 3: (the eldest are forgotten)")
    void undoOfThirteen() {
        ModeDesk x = Told.desk("row 5;");
        for (int i = 1; i <= 13; i++) {
            x.set(0, 100 + i);
        }
        due(x.count(6), 12);
        for (int i = 11; i >= 0; i--) {
            due(x.undo(), i);
        }
        due(x.undo(), NONE);
        row(x, 101);
    }

    @Says("==== 3: (the eldest are forgotten)")
    void undoOfVeryMany() {
        ModeDesk x = Told.desk("row 5;");
        for (int i = 1; i <= 100; i++) {
            x.set(0, 100 + i);
        }
        for (int i = 11; i >= 0; i--) {
            due(x.undo(), i);
            row(x, 188 + i);
        }
        due(x.undo(), NONE);
    }

    @Says("==== 3: (the eldest are forgotten)")
    void undoBehindAnotherTextAndManyEdits() {
        ModeDesk x = Told.desk("row 5;");
        for (int i = 1; i <= 7; i++) {
            x.set(0, 100 + i);
        }
        Told.text(x, "row 6;");
        due(x.undo(), NONE);
        for (int i = 1; i <= 11; i++) {
            x.set(0, 200 + i);
        }
        due(x.was(11, 0), 6);
        due(x.was(12, 0), NONE);
        for (int i = 10; i >= 0; i--) {
            due(x.undo(), i);
            row(x, i == 0 ? 6 : 200 + i);
        }
        due(x.undo(), NONE);
        row(x, 6);
    }

    @Says("==== 3: (the eldest are forgotten)")
    void forgottenOnesDoNotComeBack() {
        ModeDesk x = Told.desk("row 5;");
        for (int i = 1; i <= 13; i++) {
            x.set(0, 100 + i);
        }
        due(x.undo(), 11);
        due(x.was(12, 0), NONE);
        x.set(0, 200);
        due(x.count(6), 12);
        due(x.was(12, 0), 101);
        due(x.was(1, 0), 112);
    }

    @Says("Promise 17: The latest EDIT is undone")
    void undoneEditsCannotBeUndoneAgain() {
        ModeDesk x = Told.desk("row 5;");
        x.set(0, 6);
        x.set(0, 7);
        due(x.undo(), 1);
        x.set(0, 8);
        due(x.undo(), 1);
        row(x, 6);
        due(x.undo(), 0);
        row(x, 5);
    }

    @Says("Promise 17: The latest EDIT is undone")
    void undoInAFullRow() {
        ModeDesk x = full(p -> p, "weight 119 9;");
        x.remove(119);
        due(x.undo(), 0);
        due(x.count(0), 120);
        due(Told.place(x, 119, 0), 119);
        due(Told.place(x, 119, 1), 9);
        x.sort(0, 119, false);
        x.undo();
        due(Told.place(x, 0, 0), 0);
        due(Told.place(x, 119, 1), 9);
    }

    // ---- Promise 18: was ----

    @Says("Promise 18: (k 0: now")
    void wasNow() {
        ModeDesk x = edited();
        each(p -> x.was(0, p), 4, 9, 4, 2, 9, 4, 7, 2, 3, NOT_SO_MANY);
    }

    @Says("Promise 18: The VALUE at a PLACE as it was k EDITS ago")
    void wasOneAndTwoEditsAgo() {
        ModeDesk x = edited();
        each(k -> x.was(k, 8), 3, 2, 2, NONE);
    }

    @Says("Promise 18: of those that can be undone)")
    void wasTwelveEditsAgo() {
        ModeDesk x = Told.desk("row 5;");
        for (int i = 1; i <= 12; i++) {
            x.set(0, 100 + i);
        }
        due(x.was(12, 0), 5);
        x.set(0, 113);
        due(x.was(12, 0), 101);
        refused(x, () -> x.was(13, 0));
    }

    @Says("Promise 18: of those that can be undone)")
    void wasBehindUndo() {
        ModeDesk x = edited();
        x.undo();
        each(k -> x.was(k, 8), 2, 2, NONE);
        x.undo();
        each(k -> x.was(k, 8), 2, NONE);
    }

    @Says("Promise 18: -2: there was no such PLACE then")
    void wasNoSuchPlaceThen() {
        ModeDesk x = empty();
        x.insert(0, 7);
        x.insert(1, 8);
        x.remove(0);
        // none | 7 | 7 8 | 8
        each(k -> x.was(k, 0), 8, 7, 7, NOT_SO_MANY);
        each(k -> x.was(k, 1), NOT_SO_MANY, 8, NOT_SO_MANY, NOT_SO_MANY);
        due(x.was(0, 120), NOT_SO_MANY);
        due(x.was(3, MAX), NOT_SO_MANY);
        due(empty().was(0, 0), NOT_SO_MANY);
    }

    @Says("Promise 18: -2: there was no such PLACE then")
    void wasPlace119OfAFullRow() {
        ModeDesk x = full(p -> p, "");
        x.remove(0);
        due(x.was(0, 118), 119);
        due(x.was(0, 119), NOT_SO_MANY);
        due(x.was(1, 119), 119);
        due(x.was(1, 120), NOT_SO_MANY);
    }

    @Says("Promise 18: NONE: no such k")
    void wasNoSuchK() {
        ModeDesk x = edited();
        refused(x, () -> x.was(-1, 0), () -> x.was(3, 0), () -> x.was(12, 0), () -> x.was(13, 0), () -> x.was(MIN, 0), () -> x.was(MAX, 0));
        ModeDesk y = empty();
        refused(y, () -> y.was(1, 0));
    }

    @Says("Promise 18: p below 0")
    void wasAtAPlaceBelow0() {
        ModeDesk x = edited();
        refused(x, () -> x.was(0, -1), () -> x.was(1, -1), () -> x.was(2, MIN));
    }

    @Says({"Promise 18: NONE: no such k", "==== 4: Of several answers that hold NONE goes first"})
    void wasNoSuchKNorPlace() {
        ModeDesk x = edited();
        refused(x, () -> x.was(3, 9), () -> x.was(-1, 9), () -> x.was(MAX, MAX));
    }

    // ---- Promise 52: since ----

    @Says("Promise 52: How many EDITS ago (0 up) the VALUE of a PLACE became what it is")
    void sinceTheLatestEdit() {
        ModeDesk x = edited();
        due(x.since(8), 0);
        x.set(0, 1);
        due(x.since(0), 0);
        due(x.since(8), 1);
    }

    @Says("Promise 52: the least k so that one more EDIT ago it was another")
    void sinceTheLatestOfSeveral() {
        ModeDesk x = Told.desk("row 5 1;");
        x.set(0, 6);
        x.set(0, 5);
        x.weigh(1, 4);
        // 5 | 6 | 5 | 5: it is 5 since one edit ago, though it was 5 once.
        due(x.since(0), 1);
        due(x.since(1), NOT_SO_MANY);
    }

    @Says("Promise 52: or the PLACE was not")
    void sinceThePlaceCame() {
        ModeDesk x = Told.desk("row 5;");
        x.insert(1, 5);
        x.set(0, 6);
        due(x.since(1), 1);
        ModeDesk y = Told.desk("row 5 5;");
        y.remove(1);
        y.insert(1, 5);
        due(y.since(1), 0);
        // Gone for two edits, and what stood there ahead of them was alike.
        ModeDesk z = Told.desk("row 5 5;");
        z.remove(1);
        z.weigh(0, 2);
        z.insert(1, 5);
        z.weigh(0, 3);
        due(z.since(1), 1);
    }

    @Says("Promise 52: How many EDITS ago (0 up) the VALUE of a PLACE became what it is")
    void sinceTheEldestThatCanBeUndone() {
        ModeDesk x = Told.desk("row 5 5;");
        x.set(0, 6);
        for (int i = 0; i < 11; i++) {
            x.weigh(1, 2 + i % 2);
        }
        due(x.count(6), 12);
        due(x.since(0), 11);
        x.weigh(1, 9);
        due(x.since(0), NOT_SO_MANY);
    }

    @Says("Promise 52: -2: it was so as far as can be undone")
    void sinceAsFarAsCanBeUndone() {
        due(Told.desk(ROW).since(0), NOT_SO_MANY);
        due(edited().since(0), NOT_SO_MANY);
        ModeDesk x = edited();
        x.undo();
        due(x.since(8), NOT_SO_MANY);
    }

    @Says("Promise 52: NONE: no such PLACE")
    void sinceOfNoSuchPlace() {
        ModeDesk x = edited();
        refused(x, () -> x.since(-1), () -> x.since(9), () -> x.since(120), () -> x.since(MIN), () -> x.since(MAX));
        ModeDesk y = empty();
        refused(y, () -> y.since(0));
    }
}
