/** Boundary cases of what is asked of the whole row: places of a value, windows, all spans, parts; and of ==== 4. */
public final class RowBoundaryTest extends Cases {
    public static void main(String[] args) throws ReflectiveOperationException {
        run(RowBoundaryTest.class);
    }

    private static ModeDesk row() {
        return Told.desk(ROW);
    }

    private static ModeDesk empty() {
        return new ModeDesk();
    }

    // ---- Promise 23: at, Promise 45: follow, Promise 53: gap ----

    @Says({"Promise 23: The k-th PLACE of a VALUE", "==== 4: k-th: k from 0 on"})
    void atFirstAndLast() {
        ModeDesk x = row();
        each(k -> x.at(2, k), 3, 7, 8, NOT_SO_MANY);
        each(k -> x.at(4, k), 0, 2, 5, NOT_SO_MANY);
    }

    @Says("Promise 23: The k-th PLACE of a VALUE")
    void atInAFullRow() {
        ModeDesk x = full(p -> 999, "");
        due(x.at(999, 0), 0);
        due(x.at(999, 119), 119);
        due(x.at(999, 120), NOT_SO_MANY);
    }

    @Says("Promise 23: -2: there are not so many")
    void atOfAValueThatStandsNowhere() {
        ModeDesk x = row();
        due(x.at(0, 0), NOT_SO_MANY);
        due(x.at(999, 0), NOT_SO_MANY);
        due(x.at(4, MAX), NOT_SO_MANY);
        due(empty().at(0, 0), NOT_SO_MANY);
    }

    @Says({"Promise 23: NONE: no such ones", "==== 4: Of several answers that hold NONE goes first"})
    void atOfNoSuchValueOrNumber() {
        ModeDesk x = edited();
        refused(x, () -> x.at(-1, 0), () -> x.at(1000, 0), () -> x.at(MIN, 0), () -> x.at(MAX, 0), () -> x.at(4, -1), () -> x.at(4, MIN),
            () -> x.at(1000, MAX), () -> x.at(0, -1));
        due(empty().at(0, -1), NONE);
    }

    @Says("Promise 45: The least PLACE from p on with a VALUE (back: the greatest up to p)")
    void followBeginsAtThePlaceItself() {
        ModeDesk x = row();
        each(p -> x.follow(4, p, false), 0, 2, 2, 5, 5, 5, NOT_SO_MANY, NOT_SO_MANY, NOT_SO_MANY);
        each(p -> x.follow(2, p, true), NOT_SO_MANY, NOT_SO_MANY, NOT_SO_MANY, 3, 3, 3, 3, 7, 8);
    }

    @Says("Promise 45: The least PLACE from p on with a VALUE (back: the greatest up to p)")
    void followToTheFarEnds() {
        ModeDesk x = full(p -> p == 0 || p == 119 ? 7 : 8, "");
        due(x.follow(7, 1, false), 119);
        due(x.follow(7, 118, true), 0);
        due(x.follow(7, 119, false), 119);
        due(x.follow(7, 0, true), 0);
    }

    @Says("Promise 45: -2: there is none")
    void followToNowhere() {
        ModeDesk x = row();
        due(x.follow(0, 0, false), NOT_SO_MANY);
        due(x.follow(999, 8, true), NOT_SO_MANY);
        due(x.follow(7, 7, false), NOT_SO_MANY);
        due(x.follow(7, 5, true), NOT_SO_MANY);
    }

    @Says({"Promise 45: NONE: no such ones", "==== 4: Of several answers that hold NONE goes first"})
    void followFromNoSuchPlace() {
        ModeDesk x = edited();
        for (boolean back : new boolean[] {false, true}) {
            refused(x, () -> x.follow(4, -1, back), () -> x.follow(4, 9, back), () -> x.follow(4, MIN, back), () -> x.follow(4, MAX, back),
                () -> x.follow(500, 9, back));
        }
        due(empty().follow(0, 0, false), NONE);
        due(empty().follow(0, 0, true), NONE);
    }

    @Says("Promise 45: NONE: no such ones")
    void followOfNoSuchValue() {
        ModeDesk x = edited();
        for (boolean back : new boolean[] {false, true}) {
            refused(x, () -> x.follow(-1, 0, back), () -> x.follow(1000, 0, back), () -> x.follow(MIN, 0, back), () -> x.follow(MAX, 0, back));
        }
    }

    @Says("==== 3: GAP of a VALUE: the greatest number of PLACES from one of its PLACES to the next one")
    void gapOfLeastAndMost() {
        due(desk(5, 5).gap(5), 1);
        due(desk(5, 5, 6, 5).gap(5), 2);
        due(desk(5, 6, 7, 5, 5).gap(5), 3);
        due(full(p -> p == 0 || p == 119 ? 7 : 8, "").gap(7), 119);
        due(full(p -> 5, "").gap(5), 1);
    }

    @Says("Promise 53: GAP")
    void gapOfLeastAndGreatestValue() {
        due(desk(0, 999, 0, 1, 999).gap(0), 2);
        due(desk(0, 999, 0, 1, 999).gap(999), 3);
    }

    @Says("Promise 53: -2: the VALUE doesn't stand twice")
    void gapOfOneThatDoesNotStandTwice() {
        ModeDesk x = row();
        due(x.gap(7), NOT_SO_MANY);
        due(x.gap(0), NOT_SO_MANY);
        due(x.gap(999), NOT_SO_MANY);
        due(empty().gap(0), NOT_SO_MANY);
    }

    @Says("Promise 53: NONE: no such VALUE")
    void gapOfNoSuchValue() {
        ModeDesk x = edited();
        refused(x, () -> x.gap(-1), () -> x.gap(1000), () -> x.gap(MIN), () -> x.gap(MAX));
        due(empty().gap(1000), NONE);
    }

    // ---- Promise 34: window, Promise 35: windows ----

    @Says("==== 3: WINDOWS of width w: all SPANS of w PLACES, by l")
    void windowsOfLeastAndGreatestWidth() {
        ModeDesk x = row();
        each(k -> x.window(1, k), 4, 9, 4, 2, 9, 4, 7, 2, 2, NOT_SO_MANY);
        each(k -> x.window(9, k), 4, NOT_SO_MANY);
        each(k -> x.window(8, k), 4, 2, NOT_SO_MANY);
    }

    @Says("Promise 34: MODE of the k-th WINDOW of width w")
    void windowOfAFullRow() {
        ModeDesk x = full(p -> p, "ties last;");
        due(x.window(120, 0), 119);
        due(x.window(120, 1), NOT_SO_MANY);
        due(x.window(1, 119), 119);
        due(x.window(1, 120), NOT_SO_MANY);
        due(x.window(121, 0), NONE);
    }

    @Says("Promise 34: -2: there are not so many")
    void windowBeyondTheLast() {
        ModeDesk x = row();
        due(x.window(3, 6), 2);
        due(x.window(3, 7), NOT_SO_MANY);
        due(x.window(3, MAX), NOT_SO_MANY);
        due(x.window(9, MAX), NOT_SO_MANY);
    }

    @Says("Promise 34: NONE: no such width (1 to how many PLACES there are)")
    void windowOfNoSuchWidth() {
        ModeDesk x = edited();
        refused(x, () -> x.window(0, 0), () -> x.window(-1, 0), () -> x.window(10, 0), () -> x.window(MIN, 0), () -> x.window(MAX, 0));
        ModeDesk y = empty();
        refused(y, () -> y.window(0, 0), () -> y.window(1, 0));
    }

    @Says("Promise 34: k below 0")
    void windowBelowTheFirst() {
        ModeDesk x = edited();
        refused(x, () -> x.window(3, -1), () -> x.window(9, -1), () -> x.window(3, MIN));
    }

    @Says({"Promise 34: NONE: no such width", "==== 4: Of several answers that hold NONE goes first"})
    void windowBeyondTheLastOfNoSuchWidth() {
        ModeDesk x = edited();
        refused(x, () -> x.window(10, 9), () -> x.window(0, 10), () -> x.window(MAX, MAX), () -> x.window(MIN, MAX));
    }

    @Says("Promise 35: what 0 how often the MODE of one is another than that of the one ahead")
    void windowsThatChange() {
        due(desk(5).windows(1, 0), 0);
        due(desk(5, 5, 5).windows(1, 0), 0);
        due(desk(5, 6, 5).windows(1, 0), 2);
        due(desk(5, 6, 5).windows(3, 0), 0);
        due(full(p -> p, "").windows(1, 0), 119);
        due(full(p -> p, "").windows(120, 0), 0);
    }

    @Says("Promise 35: 1 how many unlike MODES there are")
    void windowsOfOneWidthAreNotThoseOfAnother() {
        ModeDesk x = desk(5, 6, 5, 5, 7);
        due(x.windows(1, 1), 3);
        due(x.windows(5, 1), 1);
        due(x.windows(3, 1), 1);
        due(x.windows(2, 1), 2);
    }

    @Says("Promise 35: 1 how many unlike MODES there are")
    void windowsOfUnlikeModes() {
        due(desk(5).windows(1, 1), 1);
        due(desk(5, 6, 5).windows(1, 1), 2);
        due(full(p -> p, "").windows(1, 1), 120);
        due(full(p -> p, "").windows(120, 1), 1);
    }

    @Says("Promise 35: 2 the VALUE that is MODE of most, of several the least")
    void windowsOfTheModeOfMost() {
        // Neither by the first nor by the last place, but the least value of several.
        for (String ties : new String[] {"first", "last", "least", "most"}) {
            ModeDesk x = Told.desk("row 7 3 5 7 3 5 9;ties " + ties + ";");
            due(ties, x.windows(1, 2), 3);
        }
        due(desk(999, 0).windows(1, 2), 0);
        due(desk(0, 999, 999).windows(1, 2), 999);
        due(full(p -> 119 - p, "").windows(1, 2), 0);
    }

    @Says("Promise 35: NONE: no such ones")
    void windowsOfNoSuchWidth() {
        ModeDesk x = edited();
        refused(x, () -> x.windows(0, 0), () -> x.windows(-1, 0), () -> x.windows(10, 0), () -> x.windows(MIN, 0), () -> x.windows(MAX, 0));
        ModeDesk y = empty();
        refused(y, () -> y.windows(0, 0), () -> y.windows(1, 0), () -> y.windows(1, 2));
    }

    @Says("Promise 35: NONE: no such ones")
    void windowsOfNoSuchWhat() {
        ModeDesk x = edited();
        refused(x, () -> x.windows(3, -1), () -> x.windows(3, 3), () -> x.windows(3, MIN), () -> x.windows(3, MAX));
    }

    // ---- Promise 36: spans, Promise 37: longest ----

    @Says("Promise 36: Of all SPANS, of how many a VALUE is the MODE")
    void spansOfOnePlaceAndOfAFullRow() {
        due(desk(5).spans(5), 1);
        due(full(p -> 5, "").spans(5), 7260);
        due(full(p -> p == 119 ? 999 : 5, "").spans(999), 1);
        due(full(p -> p == 119 ? 999 : 5, "").spans(5), 7259);
    }

    @Says("Promise 36: Of all SPANS, of how many a VALUE is the MODE")
    void spansByTies() {
        // 5 | 6 | 5 6
        due(Told.desk("row 5 6;ties first;").spans(5), 2);
        due(Told.desk("row 5 6;ties last;").spans(5), 1);
        due(Told.desk("row 5 6;ties least;").spans(5), 2);
        due(Told.desk("row 5 6;ties most;").spans(5), 1);
    }

    @Says("Promise 36: Of all SPANS, of how many a VALUE is the MODE")
    void spansOfAValueThatStandsNowhere() {
        due(row().spans(0), 0);
        due(row().spans(999), 0);
        due(empty().spans(0), 0);
        due(empty().spans(999), 0);
    }

    @Says("Promise 36: NONE: no such VALUE")
    void spansOfNoSuchValue() {
        ModeDesk x = edited();
        refused(x, () -> x.spans(-1), () -> x.spans(1000), () -> x.spans(MIN), () -> x.spans(MAX));
        due(empty().spans(1000), NONE);
        due(empty().spans(-1), NONE);
    }

    @Says("Promise 37: The longest SPAN of which a VALUE is the MODE, of several that with the least l, what 0 its l, 1 its r")
    void longestOfSeveralAlike() {
        ModeDesk x = Told.desk("row 5 6 5 6 6;ties most;");
        // 5 alone, at 0 and at 2; 5 6 5 is longer.
        each(what -> x.longest(5, what), 0, 2);
        ModeDesk y = Told.desk("row 5 6 6 5;ties most;");
        each(what -> y.longest(5, what), 0, 0);
        // 5 alone, at 1 and at 4.
        ModeDesk w = Told.desk("row 6 5 6 6 5 6 6;ties most;");
        each(what -> w.longest(5, what), 1, 1);
        // All but the last place, four against three; all but the first one is as long.
        ModeDesk z = Told.desk("row 9 6 6 9 9 6 6 9;ties most;");
        each(what -> z.longest(6, what), 0, 6);
    }

    @Says("Promise 37: what 0 its l, 1 its r")
    void longestAtTheFarEnds() {
        ModeDesk x = full(p -> 5, "");
        each(what -> x.longest(5, what), 0, 119);
        ModeDesk y = full(p -> p == 119 ? 7 : 5, "ties most;");
        each(what -> y.longest(7, what), 118, 119);
        each(what -> y.longest(5, what), 0, 119);
        ModeDesk z = desk(0);
        each(what -> z.longest(0, what), 0, 0);
    }

    @Says("Promise 37: -2: there is none")
    void longestOfAValueThatIsNoMode() {
        ModeDesk x = row();
        each(what -> x.longest(0, what), NOT_SO_MANY, NOT_SO_MANY);
        each(what -> x.longest(999, what), NOT_SO_MANY, NOT_SO_MANY);
        each(what -> empty().longest(0, what), NOT_SO_MANY, NOT_SO_MANY);
    }

    @Says({"Promise 37: NONE: no such ones", "==== 4: Of several answers that hold NONE goes first"})
    void longestOfNoSuchValueOrWhat() {
        ModeDesk x = edited();
        refused(x, () -> x.longest(-1, 0), () -> x.longest(1000, 0), () -> x.longest(MIN, 0), () -> x.longest(MAX, 0), () -> x.longest(4, -1),
            () -> x.longest(4, 2), () -> x.longest(4, MIN), () -> x.longest(4, MAX), () -> x.longest(500, 2));
        due(empty().longest(1000, 0), NONE);
        due(empty().longest(0, 2), NONE);
    }

    // ---- Promise 38: tightest ----

    @Says("==== 3: TIGHTEST by k: the SPAN of fewest PLACES in which some VALUE stands k times or more, of several that with the least l")
    void tightestOfSeveralAlike() {
        ModeDesk x = desk(1, 2, 1, 3, 3, 4, 4);
        each(what -> x.tightest(1, what), 0, 0, 1);
        each(what -> x.tightest(2, what), 3, 4, 3);
        ModeDesk y = desk(5, 6, 5, 6);
        each(what -> y.tightest(2, what), 0, 2, 5);
    }

    @Says("Promise 38: TIGHTEST by k (1 up), what 0 its l, 1 its r, 2 the VALUE")
    void tightestAtTheFarEnds() {
        ModeDesk x = full(p -> p == 0 || p == 119 ? 7 : 100 + p, "");
        each(what -> x.tightest(2, what), 0, 119, 7);
        ModeDesk y = full(p -> 0, "");
        each(what -> y.tightest(120, what), 0, 119, 0);
        each(what -> y.tightest(121, what), NOT_SO_MANY, NOT_SO_MANY, NOT_SO_MANY);
        ModeDesk z = full(p -> p < 118 ? p : 999, "");
        each(what -> z.tightest(2, what), 118, 119, 999);
    }

    @Says("Promise 38: -2: there is none")
    void tightestOfMoreThanThereAre() {
        ModeDesk x = row();
        each(what -> x.tightest(4, what), NOT_SO_MANY, NOT_SO_MANY, NOT_SO_MANY);
        each(what -> x.tightest(MAX, what), NOT_SO_MANY, NOT_SO_MANY, NOT_SO_MANY);
        each(what -> empty().tightest(1, what), NOT_SO_MANY, NOT_SO_MANY, NOT_SO_MANY);
    }

    @Says("Promise 38: NONE: no such ones")
    void tightestOfNoSuchNumber() {
        ModeDesk x = edited();
        refused(x, () -> x.tightest(0, 0), () -> x.tightest(-1, 0), () -> x.tightest(MIN, 0));
        due(empty().tightest(0, 0), NONE);
    }

    @Says({"Promise 38: NONE: no such ones", "==== 4: Of several answers that hold NONE goes first"})
    void tightestOfNoSuchWhat() {
        ModeDesk x = edited();
        refused(x, () -> x.tightest(1, -1), () -> x.tightest(1, 3), () -> x.tightest(1, MIN), () -> x.tightest(1, MAX), () -> x.tightest(9, 3));
        due(empty().tightest(1, 3), NONE);
    }

    // ---- Promise 50: reign, Promise 51: beginnings ----

    @Says("==== 3: REIGN of a VALUE: the longest SPAN of which it is the MAJORITY, of several that with the least l")
    void reignOfSeveralAlike() {
        ModeDesk x = desk(5, 6, 7, 5, 6, 5);
        each(what -> x.reign(5, what), 3, 5);
        each(what -> x.reign(6, what), 1, 1);
        ModeDesk y = desk(1, 2, 5, 3, 5, 4, 6, 7, 5, 8, 5);
        // 5 3 5, and 5 8 5 further on; all from the one to the other is four of nine.
        each(what -> y.reign(5, what), 2, 4);
    }

    @Says("==== 3: REIGN of a VALUE: the longest SPAN of which it is the MAJORITY")
    void reignOverJustMoreThanHalf() {
        ModeDesk x = desk(6, 5, 5, 5, 7, 8);
        // 6 5 5 5 7 is three of five; three of six are just half.
        each(what -> x.reign(5, what), 0, 4);
    }

    @Says("Promise 50: REIGN, what 0 its l, 1 its r")
    void reignAtTheFarEnds() {
        ModeDesk x = full(p -> 5, "");
        each(what -> x.reign(5, what), 0, 119);
        ModeDesk y = full(p -> p == 119 ? 7 : 5, "");
        each(what -> y.reign(7, what), 119, 119);
        each(what -> y.reign(5, what), 0, 119);
        ModeDesk z = desk(0);
        each(what -> z.reign(0, what), 0, 0);
    }

    @Says("Promise 50: -2: there is none")
    void reignOfAValueThatStandsNowhere() {
        ModeDesk x = row();
        each(what -> x.reign(0, what), NOT_SO_MANY, NOT_SO_MANY);
        each(what -> x.reign(999, what), NOT_SO_MANY, NOT_SO_MANY);
        each(what -> empty().reign(0, what), NOT_SO_MANY, NOT_SO_MANY);
    }

    @Says({"Promise 50: NONE: no such ones", "==== 4: Of several answers that hold NONE goes first"})
    void reignOfNoSuchValueOrWhat() {
        ModeDesk x = edited();
        refused(x, () -> x.reign(-1, 0), () -> x.reign(1000, 0), () -> x.reign(MIN, 0), () -> x.reign(MAX, 0), () -> x.reign(4, -1),
            () -> x.reign(4, 2), () -> x.reign(4, MIN), () -> x.reign(4, MAX), () -> x.reign(500, 2));
        due(empty().reign(1000, 0), NONE);
        due(empty().reign(0, 2), NONE);
    }

    @Says("==== 3: BEGINNINGS: all SPANS from PLACE 0 on, by r")
    void beginningsThatChangeAtTheEnd() {
        ModeDesk x = desk(5, 5, 6, 6, 6);
        each(x::beginnings, 1, 4, 2, 3);
        ModeDesk y = Told.desk("row 5 6;ties last;");
        each(y::beginnings, 1, 1, 2, 0);
    }

    @Says("Promise 51: Of BEGINNINGS, what 0 how often the MODE of one is another than that of the one ahead")
    void beginningsThatNeverChange() {
        due(desk(5).beginnings(0), 0);
        due(desk(5, 6, 7).beginnings(0), 0);
        due(empty().beginnings(0), 0);
    }

    @Says("Promise 51: 1 the last r at which it is (-2: none)")
    void beginningsThatChangeAtNone() {
        due(desk(5).beginnings(1), NOT_SO_MANY);
        due(desk(5, 5, 5).beginnings(1), NOT_SO_MANY);
        due(empty().beginnings(1), NOT_SO_MANY);
    }

    @Says("Promise 51: 2 how many unlike MODES there are")
    void beginningsOfUnlikeModes() {
        due(empty().beginnings(2), 0);
        due(desk(5).beginnings(2), 1);
        due(full(p -> p, "ties last;").beginnings(2), 120);
        // 5 | 6 | 5 : three modes in a row, two unlike ones.
        due(Told.desk("row 5 6 5;ties last;").beginnings(2), 2);
    }

    @Says("Promise 51: 3 how many there are, less 1, in the longest row of them, one behind another, with one MODE (-2: no PLACES)")
    void beginningsOfNoPlaces() {
        due(empty().beginnings(3), NOT_SO_MANY);
        due(desk(5).beginnings(3), 0);
        ModeDesk x = desk(5);
        x.remove(0);
        due(x.beginnings(3), NOT_SO_MANY);
    }

    @Says("Promise 51: 3 how many there are, less 1, in the longest row of them, one behind another, with one MODE")
    void beginningsOfAFullRow() {
        ModeDesk x = full(p -> p, "ties first;");
        each(x::beginnings, 0, NOT_SO_MANY, 1, 119);
        ModeDesk y = full(p -> p, "ties last;");
        each(y::beginnings, 119, 119, 120, 0);
        // The longest row of them ahead, and another one behind: 5 5 5 5 6 6 6 6 6 6.
        ModeDesk z = desk(5, 5, 5, 5, 6, 6, 6, 6, 6, 6);
        each(z::beginnings, 1, 8, 2, 7);
    }

    @Says("Promise 51: NONE for another what")
    void beginningsOfNoSuchWhat() {
        ModeDesk x = edited();
        refused(x, () -> x.beginnings(-1), () -> x.beginnings(4), () -> x.beginnings(MIN), () -> x.beginnings(MAX));
        due(empty().beginnings(4), NONE);
        due(empty().beginnings(-1), NONE);
    }

    // ---- Promise 54: wide ----

    @Says("==== 3: WIDE by k: the least width w so that in each WINDOW of it the MODE stands k times or more")
    void wideThatOneWindowHinders() {
        // By width 3 there is 3 4 5, by width 4 3 4 5 6, and so on: all of it alone has a value twice and more.
        due(desk(1, 1, 3, 4, 5).wide(2), 5);
        due(desk(1, 1, 2, 2).wide(2), 3);
        due(desk(1, 1, 1).wide(2), 2);
    }

    @Says("Promise 54: WIDE by k (1 up)")
    void wideByOne() {
        due(desk(5).wide(1), 1);
        due(full(p -> p, "").wide(1), 1);
    }

    @Says("Promise 54: WIDE by k (1 up)")
    void wideOfAFullRow() {
        due(full(p -> 5, "").wide(120), 120);
        due(full(p -> 5, "").wide(60), 60);
        due(full(p -> p == 0 || p == 119 ? 7 : 100 + p, "").wide(2), 120);
    }

    @Says("Promise 54: -2: there is no such width")
    void wideByMoreThanThereAre() {
        due(row().wide(4), NOT_SO_MANY);
        due(row().wide(MAX), NOT_SO_MANY);
        due(desk(5, 6).wide(2), NOT_SO_MANY);
        due(full(p -> 5, "").wide(121), NOT_SO_MANY);
        due(empty().wide(1), NOT_SO_MANY);
    }

    @Says({"Promise 54: NONE: k below 1", "==== 4: Of several answers that hold NONE goes first"})
    void wideByLessThanOne() {
        ModeDesk x = edited();
        refused(x, () -> x.wide(0), () -> x.wide(-1), () -> x.wide(MIN));
        due(empty().wide(0), NONE);
    }

    // ---- Promise 55: part ----

    private void parts(ModeDesk x, int... want) {
        due("how many", x.part(NONE), want.length);
        each(x::part, want);
        due("beyond the last", x.part(want.length), NOT_SO_MANY);
    }

    @Says("==== 3: PARTS: SPANS one behind the other that have all PLACES, each with a MAJORITY: the fewest")
    void partsThatAreFewest() {
        parts(desk(5), 0);
        parts(desk(5, 5, 6), 0);
        parts(desk(5, 6), 0, 1);
        parts(desk(1, 2, 3), 0, 1, 2);
        // 1 2 2 1 1 is one part by three of five, though 1 2 2 and 1 1 are parts as well.
        parts(desk(1, 2, 2, 1, 1), 0);
    }

    @Says("==== 3: of several those of which the first one has the fewest PLACES, then the second, and so on")
    void partsOfSeveralWays() {
        // 1 | 1 2 2 and 1 1 | 2 2 and 1 1 2 | 2
        parts(desk(1, 1, 2, 2), 0, 1);
        // All of it has just half; with its first place away there is a majority.
        parts(desk(1, 1, 2, 2, 2, 2, 3, 3), 0, 1);
        // 1 | 2 | 3 3 4 and 1 | 2 3 3 | 4: the second part decides.
        parts(desk(1, 2, 3, 3, 4), 0, 1, 2);
    }

    @Says("Promise 55: PARTS, k NONE: how many, else the l of the k-th")
    void partsOfAFullRow() {
        parts(full(p -> 5, ""), 0);
        ModeDesk x = full(p -> p, "");
        due(x.part(NONE), 120);
        due(x.part(0), 0);
        due(x.part(119), 119);
        due(x.part(120), NOT_SO_MANY);
        // Just half of each: 1 | 1 .. 1 2 .. 2
        parts(full(p -> p < 60 ? 1 : 2, ""), 0, 1);
    }

    @Says("Promise 55: -2: there are not so many")
    void partBeyondTheLast() {
        ModeDesk x = row();
        due(x.part(NONE), 5);
        due(x.part(4), 6);
        due(x.part(5), NOT_SO_MANY);
        due(x.part(MAX), NOT_SO_MANY);
    }

    @Says({"Promise 55: NONE: k below NONE", "==== 4: Of several answers that hold NONE goes first"})
    void partBelowNone() {
        ModeDesk x = edited();
        refused(x, () -> x.part(-2), () -> x.part(-3), () -> x.part(MIN));
        due(empty().part(-2), NONE);
    }

    @Says("Promise 55: (None, if there are no PLACES.)")
    void partsOfNoPlaces() {
        parts(empty());
        due(empty().part(MAX), NOT_SO_MANY);
        ModeDesk x = desk(5, 6);
        x.remove(0);
        x.remove(0);
        parts(x);
    }

    // ---- the 512 calls that an object is used for ----

    @Says("What it is: An object is used for at most 512 calls after it has been made; what later calls answer is free")
    void lastCallsOfAnObject() {
        ModeDesk x = new ModeDesk();
        for (int i = 1; i <= 120; i++) {
            due("call " + i, x.insert(0, i % 10), i);
        }
        for (int i = 121; i <= 508; i++) {
            due("call " + i, x.set(i % 120, i), i < 241 ? 9 - (i - 1) % 10 : i - 120);
        }
        due("call 509", x.count(6), 12);
        due("call 510", x.undo(), 11);
        due("call 511", x.mode(0, 119, 1), 1);
        due("call 512", x.insert(0, 0), NONE);
    }

    // ---- ==== 4 ----

    @Says("==== 4: What is asked changes nothing")
    void askingOfOneSpanChangesNothing() {
        ModeDesk x = edited();
        unchanged(x, () -> {
            for (int what = 0; what < 4; what++) {
                x.mode(0, 8, what);
                x.ranked(0, 8, 3, what);
                x.rarest(0, 8, what);
                x.ifTies(what, 0, 8);
            }
            x.rank(0, 8, 4);
            x.often(0, 8, 4);
            x.unlike(0, 8);
            x.times(0, 8, 3);
            x.majority(0, 8);
            x.heaviest(0, 8, 0);
            x.pair(0, 2, 0);
            x.candidate(1, 7, 0);
            x.median(0, 8);
            x.twisted(0, 8);
            x.run(0, 8, 0);
            x.lead(0, 8);
            x.peeled(0, 8, 2);
            x.needed(0, 8, 7);
        });
        row(x, 4, 9, 4, 2, 9, 4, 7, 2, 3);
    }

    @Says("==== 4: What is asked changes nothing")
    void askingOfTheWholeRowChangesNothing() {
        ModeDesk x = edited();
        unchanged(x, () -> {
            x.common(0, 2, 3);
            x.together(0, 2, 1, 8, 0);
            x.split(0, 8, 0);
            x.agree(0, 3, 8);
            x.ifSet(0, 999, 0, 8);
            x.ifOut(0, 0, 8);
            x.at(4, 1);
            x.follow(4, 3, true);
            x.gap(4);
            x.window(3, 0);
            x.windows(3, 2);
            x.spans(4);
            x.longest(4, 0);
            x.tightest(2, 2);
            x.reign(4, 0);
            x.beginnings(3);
            x.wide(2);
            x.part(NONE);
            x.part(1);
            x.since(0);
            x.was(2, 0);
        });
        row(x, 4, 9, 4, 2, 9, 4, 7, 2, 3);
    }

    @Says("==== 4: What is asked changes nothing")
    void askingTwiceAnswersAlike() {
        ModeDesk x = row();
        for (int i = 0; i < 3; i++) {
            due(x.part(NONE), 5);
            due(x.windows(3, 2), 4);
            due(x.wide(2), 5);
            due(x.candidate(1, 7, NONE), 4);
            due(x.split(0, 8, 1), 5);
            due(x.mode(0, 8, 0), 4);
        }
    }
}
