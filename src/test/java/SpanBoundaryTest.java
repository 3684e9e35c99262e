/** Boundary cases of what is asked of one span, of two, and of what would be. */
public final class SpanBoundaryTest extends Cases {
    public static void main(String[] args) throws ReflectiveOperationException {
        run(SpanBoundaryTest.class);
    }

    private static ModeDesk row() {
        return Told.desk(ROW);
    }

    /** Of two values that stand alike often, 8 comes first and 3 last; 3 is the least and 8 the greatest. */
    private static ModeDesk tied(String ties) {
        return Told.desk("row 8 8 3 3;ties " + ties + ";");
    }

    // ---- ==== 2: spans, ranks ----

    @Says("==== 2: A SPAN: PLACES from l to r, both too (0 <= l <= r, r a PLACE)")
    void spanOfOnePlace() {
        ModeDesk x = row();
        each(p -> x.mode(p, p, 0), 4, 9, 4, 2, 9, 4, 7, 2, 2);
        each(p -> x.mode(p, p, 1), 1, 1, 1, 1, 1, 1, 1, 1, 1);
        each(p -> x.mode(p, p, 2), 0, 1, 2, 3, 4, 5, 6, 7, 8);
        each(p -> x.mode(p, p, 3), 0, 1, 2, 3, 4, 5, 6, 7, 8);
    }

    @Says("==== 2: A SPAN: PLACES from l to r, both too (0 <= l <= r, r a PLACE)")
    void spanHasBothItsEnds() {
        ModeDesk x = desk(6, 1, 2, 6);
        due(x.often(0, 3, 6), 2);
        due(x.often(0, 2, 6), 1);
        due(x.often(1, 3, 6), 1);
        due(x.often(1, 2, 6), 0);
    }

    @Says("==== 2: In a SPAN a VALUE stands as often as there are PLACES with it")
    void weightsDoNotCount() {
        ModeDesk x = Told.desk("row 6 1 6;weight 1 9;");
        due(x.mode(0, 2, 0), 6);
        due(x.often(0, 2, 1), 1);
    }

    @Says("==== 2: VALUES of a SPAN are RANKED by how often they stand there, the most first")
    void ranksOfASpanAreItsOwn() {
        ModeDesk x = desk(1, 1, 1, 2, 2, 3, 1, 1);
        each(k -> x.ranked(3, 6, k, 0), 2, 3, 1, NOT_SO_MANY);
    }

    @Says("==== 2: VALUES of a SPAN are RANKED by how often they stand there, the most first")
    void oftenGoesAheadOfTies() {
        for (String ties : new String[] {"first", "last", "least", "most"}) {
            ModeDesk x = Told.desk("row 9 5 5 1;ties " + ties + ";");
            due(ties, x.mode(0, 3, 0), 5);
        }
    }

    @Says("==== 2: of like ones by TIES: first: whose first PLACE there is least")
    void tiesFirst() {
        ModeDesk x = Told.desk("row 3 8 8 3 5 5;ties first;");
        each(k -> x.ranked(0, 5, k, 0), 3, 8, 5, NOT_SO_MANY);
        // The place of 3 that comes first lies ahead of the span.
        each(k -> x.ranked(1, 5, k, 0), 8, 5, 3, NOT_SO_MANY);
        due(x.mode(2, 4, 0), 8);
    }

    @Says("==== 2: last: whose last PLACE there is greatest")
    void tiesLast() {
        ModeDesk x = Told.desk("row 5 5 3 8 8 3;ties last;");
        each(k -> x.ranked(0, 5, k, 0), 3, 8, 5, NOT_SO_MANY);
        // The place of 3 that comes last lies behind the span.
        each(k -> x.ranked(0, 4, k, 0), 8, 5, 3, NOT_SO_MANY);
        due(x.mode(1, 3, 0), 8);
    }

    @Says("==== 2: least: the least")
    void tiesLeast() {
        ModeDesk x = Told.desk("row 999 1 0 999 1 0 7;ties least;");
        each(k -> x.ranked(0, 6, k, 0), 0, 1, 999, 7, NOT_SO_MANY);
    }

    @Says("==== 2: most: the greatest")
    void tiesMost() {
        ModeDesk x = Told.desk("row 0 1 999 0 1 999 7;ties most;");
        each(k -> x.ranked(0, 6, k, 0), 999, 1, 0, 7, NOT_SO_MANY);
    }

    @Says("==== 2: MODE: the one RANKED first")
    void modeOfTiedValues() {
        due(tied("first").mode(0, 3, 0), 8);
        due(tied("last").mode(0, 3, 0), 3);
        due(tied("least").mode(0, 3, 0), 3);
        due(tied("most").mode(0, 3, 0), 8);
    }

    // ---- Promise 19: mode ----

    @Says("Promise 19: MODE of a SPAN, what 0 the VALUE, 1 how often, 2 its first, 3 its last PLACE there")
    void modeOfAllPlaces() {
        ModeDesk x = row();
        each(what -> x.mode(0, 8, what), 4, 3, 0, 5);
        each(what -> x.mode(3, 8, what), 2, 3, 3, 8);
        // 9 4: the places of 9 and 4 elsewhere are not of it.
        each(what -> x.mode(4, 5, what), 9, 1, 4, 4);
    }

    @Says("Promise 19: MODE of a SPAN, what 0 the VALUE, 1 how often, 2 its first, 3 its last PLACE there")
    void modeOfAFullRow() {
        ModeDesk x = full(p -> 5, "");
        each(what -> x.mode(0, 119, what), 5, 120, 0, 119);
        ModeDesk y = full(p -> p, "ties last;");
        each(what -> y.mode(0, 119, what), 119, 1, 119, 119);
    }

    @Says("Promise 19: NONE: no such SPAN")
    void modeOfNoSuchSpan() {
        ModeDesk x = edited();
        noSpan(x, (l, r) -> x.mode(l, r, 0));
        ModeDesk y = new ModeDesk();
        refused(y, () -> y.mode(0, 0, 0), () -> y.mode(0, -1, 0));
        ModeDesk z = full(p -> p, "");
        due(z.mode(0, 120, 0), NONE);
        due(z.mode(120, 120, 0), NONE);
    }

    @Says("Promise 19: NONE: no such SPAN, what")
    void modeOfNoSuchWhat() {
        ModeDesk x = edited();
        refused(x, () -> x.mode(0, 8, -1), () -> x.mode(0, 8, 4), () -> x.mode(0, 8, MIN), () -> x.mode(0, 8, MAX));
    }

    // ---- Promise 20: ranked ----

    @Says("Promise 20: The one RANKED k-th in a SPAN, what as of mode()")
    void rankedFirstAndLast() {
        ModeDesk x = row();
        each(what -> x.ranked(0, 8, 0, what), 4, 3, 0, 5);
        each(what -> x.ranked(0, 8, 3, what), 7, 1, 6, 6);
    }

    @Says("Promise 20: The one RANKED k-th in a SPAN, what as of mode()")
    void rankedOfAFullRow() {
        ModeDesk x = full(p -> p, "ties most;");
        due(x.ranked(0, 119, 0, 0), 119);
        due(x.ranked(0, 119, 119, 0), 0);
        due(x.ranked(0, 119, 120, 0), NOT_SO_MANY);
    }

    @Says("Promise 20: -2: there are not so many")
    void rankedBeyondTheLast() {
        ModeDesk x = row();
        due(x.ranked(0, 8, 4, 0), NOT_SO_MANY);
        due(x.ranked(0, 8, MAX, 3), NOT_SO_MANY);
        due(x.ranked(4, 4, 1, 0), NOT_SO_MANY);
        due(x.ranked(7, 8, 1, 0), NOT_SO_MANY);
    }

    @Says("Promise 20: NONE: no such ones")
    void rankedOfNoSuchSpan() {
        ModeDesk x = edited();
        noSpan(x, (l, r) -> x.ranked(l, r, 0, 0));
        ModeDesk y = new ModeDesk();
        refused(y, () -> y.ranked(0, 0, 0, 0));
    }

    @Says("Promise 20: NONE: no such ones")
    void rankedOfNoSuchRankOrWhat() {
        ModeDesk x = edited();
        refused(x, () -> x.ranked(0, 8, -1, 0), () -> x.ranked(0, 8, MIN, 0), () -> x.ranked(0, 8, 0, -1),
            () -> x.ranked(0, 8, 0, 4), () -> x.ranked(0, 8, 0, MIN), () -> x.ranked(0, 8, 0, MAX));
    }

    @Says({"Promise 20: NONE: no such ones", "==== 4: Of several answers that hold NONE goes first"})
    void rankedBeyondTheLastOfNoSuchWhat() {
        ModeDesk x = edited();
        noSpan(x, (l, r) -> x.ranked(l, r, 200, 0));
        refused(x, () -> x.ranked(0, 8, 200, 4), () -> x.ranked(0, 8, MAX, -1));
    }

    // ---- Promise 21: rank ----

    @Says("Promise 21: As the how-manieth (from 0 on) a VALUE is RANKED in a SPAN")
    void rankOfFirstAndLast() {
        ModeDesk x = row();
        due(x.rank(0, 8, 4), 0);
        due(x.rank(0, 8, 2), 1);
        due(x.rank(0, 8, 9), 2);
        due(x.rank(0, 8, 7), 3);
        due(x.rank(6, 6, 7), 0);
    }

    @Says("Promise 21: As the how-manieth (from 0 on) a VALUE is RANKED in a SPAN")
    void rankInAFullRow() {
        ModeDesk x = full(p -> 880 + p, "ties most;");
        due(x.rank(0, 119, 999), 0);
        due(x.rank(0, 119, 880), 119);
    }

    @Says("Promise 21: -2: it doesn't stand there")
    void rankOfAValueThatDoesNotStandThere() {
        ModeDesk x = row();
        due(x.rank(0, 8, 0), NOT_SO_MANY);
        due(x.rank(0, 8, 999), NOT_SO_MANY);
        due(x.rank(0, 5, 7), NOT_SO_MANY);
        due(x.rank(7, 8, 7), NOT_SO_MANY);
    }

    @Says("Promise 21: NONE: no such ones")
    void rankOfNoSuchValue() {
        ModeDesk x = edited();
        refused(x, () -> x.rank(0, 8, -1), () -> x.rank(0, 8, 1000), () -> x.rank(0, 8, MIN), () -> x.rank(0, 8, MAX));
    }

    @Says({"Promise 21: NONE: no such ones", "==== 4: Of several answers that hold NONE goes first"})
    void rankInNoSuchSpan() {
        ModeDesk x = edited();
        noSpan(x, (l, r) -> x.rank(l, r, 4));
        ModeDesk y = edited();
        noSpan(y, (l, r) -> y.rank(l, r, 500));
        due(new ModeDesk().rank(0, 0, 0), NONE);
    }

    // ---- Promise 22: often ----

    @Says("Promise 22: How often a VALUE stands in a SPAN")
    void oftenOfNone() {
        ModeDesk x = row();
        due(x.often(0, 8, 0), 0);
        due(x.often(0, 8, 999), 0);
        due(x.often(0, 5, 7), 0);
    }

    @Says("Promise 22: How often a VALUE stands in a SPAN")
    void oftenInAFullRow() {
        ModeDesk x = full(p -> 999, "");
        due(x.often(0, 119, 999), 120);
        due(x.often(119, 119, 999), 1);
    }

    @Says("Promise 22: NONE: no such ones")
    void oftenOfNoSuchValue() {
        ModeDesk x = edited();
        refused(x, () -> x.often(0, 8, -1), () -> x.often(0, 8, 1000), () -> x.often(0, 8, MIN), () -> x.often(0, 8, MAX));
    }

    @Says("Promise 22: NONE: no such ones")
    void oftenInNoSuchSpan() {
        ModeDesk x = edited();
        noSpan(x, (l, r) -> x.often(l, r, 4));
        due(new ModeDesk().often(0, 0, 0), NONE);
    }

    // ---- Promise 24: unlike, Promise 25: times ----

    @Says("Promise 24: How many unlike VALUES stand in a SPAN")
    void unlikeOfFewestAndMost() {
        ModeDesk x = row();
        due(x.unlike(3, 3), 1);
        due(x.unlike(7, 8), 1);
        due(x.unlike(0, 8), 4);
        due(full(p -> 880 + p, "").unlike(0, 119), 120);
        due(full(p -> 7, "").unlike(0, 119), 1);
    }

    @Says("Promise 24: NONE: no such SPAN")
    void unlikeInNoSuchSpan() {
        ModeDesk x = edited();
        noSpan(x, x::unlike);
        due(new ModeDesk().unlike(0, 0), NONE);
    }

    @Says("Promise 25: How many VALUES stand just n (1 up) times in a SPAN")
    void timesOfEachNumber() {
        ModeDesk x = row();
        each(n -> n == 0 ? 0 : x.times(0, 8, n), 0, 1, 1, 2, 0, 0, 0, 0, 0, 0, 0);
        due(x.times(0, 8, MAX), 0);
        due(x.times(3, 3, 1), 1);
        due(x.times(3, 3, 2), 0);
    }

    @Says("Promise 25: How many VALUES stand just n (1 up) times in a SPAN")
    void timesInAFullRow() {
        due(full(p -> p, "").times(0, 119, 1), 120);
        due(full(p -> 5, "").times(0, 119, 120), 1);
        due(full(p -> 5, "").times(0, 119, 119), 0);
    }

    @Says("Promise 25: NONE: no such ones")
    void timesOfNoSuchNumber() {
        ModeDesk x = edited();
        refused(x, () -> x.times(0, 8, 0), () -> x.times(0, 8, -1), () -> x.times(0, 8, MIN));
    }

    @Says("Promise 25: NONE: no such ones")
    void timesInNoSuchSpan() {
        ModeDesk x = edited();
        noSpan(x, (l, r) -> x.times(l, r, 1));
        due(new ModeDesk().times(0, 0, 1), NONE);
    }

    // ---- Promise 26: majority, Promise 27: heaviest ----

    @Says("==== 2: MAJORITY: a VALUE that stands at more than half of its PLACES")
    void majorityOfJustHalf() {
        due(desk(5, 6).majority(0, 1), NOT_SO_MANY);
        due(desk(5, 6, 5, 6).majority(0, 3), NOT_SO_MANY);
        due(desk(5, 5, 6, 7).majority(0, 3), NOT_SO_MANY);
    }

    @Says("==== 2: MAJORITY: a VALUE that stands at more than half of its PLACES")
    void majorityOfJustMoreThanHalf() {
        due(desk(5).majority(0, 0), 5);
        due(desk(5, 6, 5).majority(0, 2), 5);
        due(desk(6, 0, 0, 7, 0).majority(0, 4), 0);
        due(desk(5, 999, 999, 999).majority(0, 3), 999);
    }

    @Says("==== 2: MAJORITY: a VALUE that stands at more than half of its PLACES")
    void majorityOfAFullRow() {
        due(full(p -> p < 60 ? 4 : 7, "").majority(0, 119), NOT_SO_MANY);
        due(full(p -> p < 61 ? 4 : 7, "").majority(0, 119), 4);
    }

    @Says("Promise 26: -2: there is none")
    void majorityOfUnlikeValues() {
        ModeDesk x = row();
        due(x.majority(0, 8), NOT_SO_MANY);
        due(x.majority(3, 6), NOT_SO_MANY);
        due(x.majority(5, 8), NOT_SO_MANY);
    }

    @Says("Promise 26: MAJORITY")
    void majorityAtTheEnds() {
        ModeDesk x = row();
        due(x.majority(0, 2), 4);
        due(x.majority(6, 8), 2);
        due(x.majority(8, 8), 2);
    }

    @Says("Promise 26: NONE: no such SPAN")
    void majorityOfNoSuchSpan() {
        ModeDesk x = edited();
        noSpan(x, x::majority);
        due(new ModeDesk().majority(0, 0), NONE);
    }

    @Says("==== 2: HEAVIEST: the VALUE whose WEIGHTS there are most together, of several the one RANKED first")
    void heaviestOfLikeWeights() {
        // 6 and 3 weigh 4 each: 3 stands more often; 7 and 8 stand once and weigh 4 each as well.
        String row = "row 6 3 3 7 8;weight 0 4;weight 1 2;weight 2 2;weight 3 4;weight 4 4;ties ";
        due(Told.desk(row + "first;").heaviest(0, 4, 0), 3);
        due(Told.desk(row + "last;").heaviest(0, 1, 0), 6);
        due(Told.desk(row + "first;").heaviest(3, 4, 0), 7);
        due(Told.desk(row + "last;").heaviest(3, 4, 0), 8);
        due(Told.desk(row + "least;").heaviest(3, 4, 0), 7);
        due(Told.desk(row + "most;").heaviest(3, 4, 0), 8);
    }

    @Says("==== 2: HEAVIEST: the VALUE whose WEIGHTS there are most together")
    void heaviestByWeightsOfTheSpanAlone() {
        ModeDesk x = Told.desk("row 5 6 6 5;weight 0 9;weight 3 9;");
        due(x.heaviest(1, 2, 0), 6);
        due(x.heaviest(1, 2, 1), 2);
        due(x.heaviest(1, 3, 0), 5);
        due(x.heaviest(1, 3, 1), 9);
    }

    @Says("Promise 27: HEAVIEST, what 0 the VALUE, 1 its WEIGHTS together")
    void heaviestOfOnePlaceAndOfAll() {
        ModeDesk x = row();
        each(what -> x.heaviest(1, 1, what), 9, 5);
        each(what -> x.heaviest(0, 8, what), 9, 6);
        ModeDesk y = full(p -> 0, "");
        each(what -> y.heaviest(0, 119, what), 0, 120);
        ModeDesk z = full(p -> p, "weight 119 9;");
        each(what -> z.heaviest(0, 119, what), 119, 9);
        each(what -> z.heaviest(0, 118, what), 0, 1);
    }

    @Says("Promise 27: NONE: no such ones")
    void heaviestOfNoSuchWhat() {
        ModeDesk x = edited();
        refused(x, () -> x.heaviest(0, 8, -1), () -> x.heaviest(0, 8, 2), () -> x.heaviest(0, 8, MIN), () -> x.heaviest(0, 8, MAX));
    }

    @Says("Promise 27: NONE: no such ones")
    void heaviestOfNoSuchSpan() {
        ModeDesk x = edited();
        noSpan(x, (l, r) -> x.heaviest(l, r, 0));
        due(new ModeDesk().heaviest(0, 0, 0), NONE);
    }

    // ---- Promise 28: pair, Promise 29: candidate ----

    @Says("==== 2: BLOCKS: block b has PLACES from b times BLOCK on, as many as BLOCK (the last one maybe fewer)")
    void blocksOfPlacesAtTheirEdges() {
        ModeDesk x = Told.desk("row 1 1 1 1 1 1 1;block 3;");
        each(p -> Told.place(x, p, 2), 0, 0, 0, 1, 1, 1, 2);
        each(b -> x.pair(b, b, 1), 3, 3, 1, NONE);
        x.remove(6);
        each(b -> x.pair(b, b, 1), 3, 3, NONE);
    }

    @Says("==== 2: A PAIR: two BLOCKS i <= j: the SPAN of all from i to j")
    void pairOfOneBlockAndOfAll() {
        ModeDesk x = Told.desk("row 1 2 2 1 1 1 2;block 2;");
        each(b -> x.pair(b, b, 0), 1, 2, 1, 2);
        each(b -> x.pair(0, b, 1), 1, 2, 4, 4);
        each(b -> x.pair(b, 3, 1), 4, 3, 2, 1);
    }

    @Says("Promise 28: MODE of a PAIR, what 0 the VALUE, 1 how often")
    void pairOfAFullRow() {
        ModeDesk x = full(p -> p / 2, "block 2;");
        each(what -> x.pair(59, 59, what), 59, 2);
        each(what -> x.pair(0, 59, what), 0, 2);
        due(x.pair(59, 60, 0), NONE);
        due(x.pair(60, 60, 0), NONE);
    }

    @Says("Promise 28: NONE: no such ones")
    void pairOfNoSuchBlocks() {
        ModeDesk x = edited();
        refused(x, () -> x.pair(-1, 0, 0), () -> x.pair(-1, -1, 0), () -> x.pair(0, 3, 0), () -> x.pair(3, 3, 0), () -> x.pair(1, 0, 0),
            () -> x.pair(0, MAX, 0), () -> x.pair(MAX, MAX, 0), () -> x.pair(MIN, 0, 0), () -> x.pair(MIN, MAX, 0), () -> x.pair(2, MIN, 0),
            () -> x.pair(1, 0, 1), () -> x.pair(2, 0, 1), () -> x.pair(3, 3, 1), () -> x.pair(-1, -1, 1));
    }

    @Says("Promise 28: NONE: no such ones")
    void pairOfNoSuchWhat() {
        ModeDesk x = edited();
        refused(x, () -> x.pair(0, 0, -1), () -> x.pair(0, 0, 2), () -> x.pair(0, 0, MIN), () -> x.pair(0, 0, MAX));
    }

    @Says("Promise 28: NONE: no such ones")
    void pairOfAnEmptyRow() {
        ModeDesk x = new ModeDesk();
        refused(x, () -> x.pair(0, 0, 0), () -> x.pair(0, -1, 0));
    }

    private void candidates(ModeDesk x, int l, int r, int... want) {
        due("how many of " + l + ", " + r, x.candidate(l, r, NONE), want.length);
        each(k -> x.candidate(l, r, k), want);
        due("beyond the last of " + l + ", " + r, x.candidate(l, r, want.length), NOT_SO_MANY);
    }

    @Says("==== 2: CANDIDATES of a SPAN: the MODE of all BLOCKS that lie in it as a whole")
    void candidateOfWholeBlocksAlone() {
        // 1 2 | 2 3 | 3 3
        ModeDesk x = Told.desk("row 1 2 2 3 3 3;block 2;");
        candidates(x, 0, 5, 3);
        candidates(x, 0, 3, 2);
        candidates(x, 2, 3, 2);
    }

    @Says("==== 2: (those of BLOCK PLACES, and a last one with fewer, too")
    void candidateOfALastBlockWithFewer() {
        // 1 2 | 2 3 | 3
        ModeDesk x = Told.desk("row 1 2 2 3 3;block 2;");
        candidates(x, 4, 4, 3);
        candidates(x, 2, 4, 3);
        candidates(x, 0, 4, 2);
        candidates(x, 1, 4, 2, 3);
    }

    @Says("==== 2: none: none), and all VALUES at PLACES of it that lie in none of these")
    void candidatesOfNoWholeBlock() {
        ModeDesk x = Told.desk("row 1 2 2 3 3 3;block 4;");
        candidates(x, 0, 2, 2, 1);
        candidates(x, 1, 3, 2, 3);
        candidates(x, 3, 4, 3);
        candidates(x, 2, 4, 3, 2);
        candidates(x, 0, 0, 1);
    }

    @Says("==== 2: all VALUES at PLACES of it that lie in none of these")
    void candidatesAtBothEnds() {
        // 9 1 | 2 2 | 5 6
        ModeDesk x = Told.desk("row 9 1 2 2 5 6;block 2;");
        candidates(x, 1, 4, 2, 1, 5);
        // 9 lies in a whole block, and is not the mode of both.
        candidates(x, 0, 4, 2, 5);
    }

    @Says({"Promise 29: The k-th CANDIDATE of a SPAN", "==== 2: each once, as RANKED in the SPAN"})
    void candidatesComeOnceAndAsRanked() {
        // 5 5 | 7 8 | 7 5, by the least: 7 of the block in the midst is the last one's first as well.
        ModeDesk x = Told.desk("row 5 5 7 8 7 5;block 2;ties least;");
        candidates(x, 1, 4, 7, 5);
        // 7 8 has the mode 8 by the greatest; 7 comes from the block behind and stands more often.
        ModeDesk y = Told.desk("row 5 5 7 8 7 5;block 2;ties most;");
        candidates(y, 1, 4, 7, 8, 5);
    }

    @Says("Promise 29: k NONE: how many")
    void howManyCandidates() {
        ModeDesk x = full(p -> p, "block 20;");
        // The 19 places at each end, and one mode of the four blocks between them.
        due(x.candidate(1, 118, NONE), 39);
        due(x.candidate(0, 119, NONE), 1);
        due(x.candidate(101, 118, NONE), 18);
    }

    @Says("Promise 29: -2: there are not so many")
    void candidateBeyondTheLast() {
        ModeDesk x = row();
        due(x.candidate(0, 8, 1), NOT_SO_MANY);
        due(x.candidate(0, 8, MAX), NOT_SO_MANY);
        due(x.candidate(0, 0, 1), NOT_SO_MANY);
    }

    @Says("Promise 29: NONE: no such SPAN, k below NONE")
    void candidateBelowNone() {
        ModeDesk x = edited();
        refused(x, () -> x.candidate(0, 8, -2), () -> x.candidate(0, 8, -3), () -> x.candidate(0, 8, MIN));
    }

    @Says({"Promise 29: NONE: no such SPAN", "==== 4: Of several answers that hold NONE goes first"})
    void candidateOfNoSuchSpan() {
        ModeDesk x = edited();
        noSpan(x, (l, r) -> x.candidate(l, r, 0));
        ModeDesk y = edited();
        noSpan(y, (l, r) -> y.candidate(l, r, NONE));
        ModeDesk z = edited();
        noSpan(z, (l, r) -> z.candidate(l, r, 200));
        due(new ModeDesk().candidate(0, 0, NONE), NONE);
    }

    // ---- Promise 30: median, Promise 31: twisted, Promise 32: run ----

    @Says("==== 3: MEDIAN: of its VALUES, rising, that at place (how many, less 1) by 2, downwards")
    void medianOfOddAndEven() {
        ModeDesk x = desk(9, 1, 8, 2);
        due(x.median(0, 0), 9);
        due(x.median(0, 1), 1);
        due(x.median(0, 2), 8);
        due(x.median(0, 3), 2);
        due(x.median(1, 3), 2);
        due(x.median(2, 3), 2);
        due(x.median(3, 3), 2);
        due(x.median(2, 2), 8);
    }

    @Says("Promise 30: MEDIAN")
    void medianOfLeastAndGreatestValues() {
        due(desk(0).median(0, 0), 0);
        due(desk(999).median(0, 0), 999);
        due(desk(999, 0, 999).median(0, 2), 999);
        due(desk(0, 999, 0, 999).median(0, 3), 0);
    }

    @Says("Promise 30: MEDIAN")
    void medianOfAFullRow() {
        due(full(p -> 119 - p, "").median(0, 119), 59);
        due(full(p -> 119 - p, "").median(0, 118), 60);
        due(full(p -> 5, "").median(0, 119), 5);
    }

    @Says("Promise 30: NONE: no such SPAN")
    void medianOfNoSuchSpan() {
        ModeDesk x = edited();
        noSpan(x, x::median);
        due(new ModeDesk().median(0, 0), NONE);
    }

    @Says("==== 3: TWISTED: how many two PLACES of it there are of which the one ahead has the greater VALUE")
    void twistedOfLikeAndRisingValues() {
        due(desk(5, 5, 5).twisted(0, 2), 0);
        due(desk(0, 1, 999).twisted(0, 2), 0);
        due(desk(3, 2).twisted(0, 1), 1);
        due(desk(3, 3, 2).twisted(0, 2), 2);
    }

    @Says("Promise 31: TWISTED")
    void twistedOfOnePlaceAndOfAFullRow() {
        due(desk(5).twisted(0, 0), 0);
        due(full(p -> 119 - p, "").twisted(0, 119), 7140);
        due(full(p -> 119 - p, "").twisted(1, 118), 6903);
    }

    @Says("Promise 31: NONE: no such SPAN")
    void twistedOfNoSuchSpan() {
        ModeDesk x = edited();
        noSpan(x, x::twisted);
        due(new ModeDesk().twisted(0, 0), NONE);
    }

    @Says("==== 3: RUN: the longest SPAN within it with one VALUE alone, the first of several")
    void runOfSeveralAlike() {
        ModeDesk x = desk(1, 1, 2, 3, 3, 4, 4);
        each(what -> x.run(0, 6, what), 0, 1, 1);
        each(what -> x.run(2, 6, what), 3, 4, 3);
        each(what -> x.run(1, 3, what), 1, 1, 1);
    }

    @Says("==== 3: RUN: the longest SPAN within it")
    void runThatGoesOnBeyondTheSpan() {
        ModeDesk x = desk(5, 5, 5, 6, 6, 5, 5, 5);
        each(what -> x.run(2, 5, what), 3, 4, 6);
        each(what -> x.run(1, 6, what), 1, 2, 5);
        each(what -> x.run(2, 6, what), 3, 4, 6);
    }

    @Says("Promise 32: RUN, what 0 its l, 1 its r, 2 its VALUE")
    void runOfOnePlaceAndOfAFullRow() {
        ModeDesk x = desk(5, 0);
        each(what -> x.run(1, 1, what), 1, 1, 0);
        ModeDesk y = full(p -> 999, "");
        each(what -> y.run(0, 119, what), 0, 119, 999);
        ModeDesk z = full(p -> p < 118 ? p : 7, "");
        each(what -> z.run(0, 119, what), 118, 119, 7);
    }

    @Says("Promise 32: NONE: no such ones")
    void runOfNoSuchWhat() {
        ModeDesk x = edited();
        refused(x, () -> x.run(0, 8, -1), () -> x.run(0, 8, 3), () -> x.run(0, 8, MIN), () -> x.run(0, 8, MAX));
    }

    @Says("Promise 32: NONE: no such ones")
    void runOfNoSuchSpan() {
        ModeDesk x = edited();
        noSpan(x, (l, r) -> x.run(l, r, 0));
        due(new ModeDesk().run(0, 0, 0), NONE);
    }

    // ---- Promise 33: common ----

    @Says("==== 3: COMMON of two SPANS: VALUES that stand in both, each as often as in that in which it stands less often, together")
    void commonOfAllAndOfNone() {
        ModeDesk x = desk(1, 1, 2, 1, 2, 2, 3, 4, 5);
        due(x.common(0, 2, 3), 2);
        due(x.common(3, 5, 0), 2);
        due(x.common(0, 2, 6), 0);
        due(x.common(0, 2, 0), 3);
    }

    @Says("Promise 33: COMMON of the SPANS l to r and of as many PLACES from m on")
    void commonOfTheLastPlaces() {
        ModeDesk x = row();
        due(x.common(0, 2, 6), 0);
        due(x.common(3, 3, 8), 1);
        due(x.common(0, 8, 0), 9);
        ModeDesk y = full(p -> 5, "");
        due(y.common(0, 119, 0), 120);
        due(y.common(0, 59, 60), 60);
        ModeDesk z = full(p -> p, "");
        due(z.common(0, 119, 0), 120);
        due(z.common(0, 59, 60), 0);
        due(z.common(0, 118, 1), 118);
    }

    @Says("Promise 33: NONE: no such ones")
    void commonBeyondTheLastPlace() {
        ModeDesk x = edited();
        refused(x, () -> x.common(0, 2, 7), () -> x.common(0, 8, 1), () -> x.common(0, 0, 9), () -> x.common(8, 8, 9), () -> x.common(0, 2, 120));
    }

    @Says("Promise 33: NONE: no such ones")
    void commonThatWouldWrapRound() {
        ModeDesk x = edited();
        refused(x, () -> x.common(0, 2, MAX), () -> x.common(0, 2, MAX - 1), () -> x.common(0, 2, MIN), () -> x.common(0, 2, -1), () -> x.common(0, 2, -3));
    }

    @Says("Promise 33: NONE: no such ones")
    void commonOfNoSuchSpan() {
        ModeDesk x = edited();
        noSpan(x, (l, r) -> x.common(l, r, 0));
        due(new ModeDesk().common(0, 0, 0), NONE);
    }

    // ---- Promise 39: needed ----

    @Says("==== 3: NEEDED for a VALUE in a SPAN: the fewest PLACES of it that must get that VALUE")
    void neededByWhatStandsMostAlready() {
        due(desk(5).needed(0, 0, 5), 0);
        due(desk(5, 5, 6).needed(0, 2, 5), 0);
        due(full(p -> 5, "").needed(0, 119, 5), 0);
    }

    @Says("==== 3: so that it stands there more often than each other one")
    void neededByOneThatIsTied() {
        due(desk(5, 6).needed(0, 1, 5), 1);
        due(desk(5, 6).needed(0, 1, 6), 1);
        // One of 5 5 becomes 6, and it is 5 6 6.
        due(desk(5, 5, 6).needed(0, 2, 6), 1);
        // 5 5 6 6: one of 5 becomes 6.
        due(desk(5, 5, 6, 6).needed(0, 3, 6), 1);
    }

    @Says("==== 3: so that it stands there more often than each other one")
    void neededByOneThatIsNotThere() {
        due(desk(5).needed(0, 0, 6), 1);
        due(desk(5, 5).needed(0, 1, 6), 2);
        due(desk(5, 5, 5).needed(0, 2, 6), 2);
        due(desk(1, 2, 3).needed(0, 2, 6), 2);
        due(desk(1, 2, 3, 4).needed(0, 3, 6), 2);
    }

    @Says("Promise 39: NEEDED")
    void neededInAFullRow() {
        due(full(p -> 5, "").needed(0, 119, 6), 61);
        due(full(p -> p, "").needed(0, 119, 999), 2);
        due(full(p -> p, "").needed(0, 119, 0), 1);
        due(full(p -> p < 60 ? 1 : 2, "").needed(0, 119, 1), 1);
    }

    @Says("Promise 39: NEEDED")
    void neededOfSeveralRivals() {
        // One of each becomes 4, which stands three times then, each other one twice.
        ModeDesk x = desk(1, 1, 1, 2, 2, 2, 3, 3, 3);
        due(x.needed(0, 8, 4), 3);
        due(x.needed(0, 8, 1), 1);
    }

    @Says("Promise 39: NONE: no such ones")
    void neededOfNoSuchValue() {
        ModeDesk x = edited();
        refused(x, () -> x.needed(0, 8, -1), () -> x.needed(0, 8, 1000), () -> x.needed(0, 8, MIN), () -> x.needed(0, 8, MAX));
    }

    @Says("Promise 39: NONE: no such ones")
    void neededInNoSuchSpan() {
        ModeDesk x = edited();
        noSpan(x, (l, r) -> x.needed(l, r, 4));
        due(new ModeDesk().needed(0, 0, 4), NONE);
    }

    // ---- Promise 40: ifSet, 41: ifOut, 42: ifTies ----

    @Says("Promise 40: The MODE of a SPAN, had a PLACE a VALUE")
    void ifSetAtBothEnds() {
        ModeDesk x = row();
        due(x.ifSet(0, 2, 0, 8), 2);
        due(x.ifSet(8, 9, 0, 8), 4);
        due(x.ifSet(0, 9, 0, 1), 9);
        due(x.ifSet(1, 4, 0, 1), 4);
    }

    @Says("Promise 40: The MODE of a SPAN, had a PLACE a VALUE")
    void ifSetOfOnePlace() {
        ModeDesk x = row();
        due(x.ifSet(0, 0, 0, 0), 0);
        due(x.ifSet(8, 999, 8, 8), 999);
        due(x.ifSet(8, 2, 8, 8), 2);
    }

    @Says("Promise 40: The MODE of a SPAN, had a PLACE a VALUE")
    void ifSetOfAPlaceElsewhere() {
        ModeDesk x = row();
        due(x.ifSet(0, 9, 6, 8), 2);
        due(x.ifSet(8, 9, 0, 2), 4);
    }

    @Says("Promise 40: NONE: no such ones")
    void ifSetOfNoSuchPlace() {
        ModeDesk x = edited();
        refused(x, () -> x.ifSet(-1, 4, 0, 8), () -> x.ifSet(9, 4, 0, 8), () -> x.ifSet(MIN, 4, 0, 8), () -> x.ifSet(MAX, 4, 0, 8));
    }

    @Says("Promise 40: NONE: no such ones")
    void ifSetToNoSuchValue() {
        ModeDesk x = edited();
        refused(x, () -> x.ifSet(0, -1, 0, 8), () -> x.ifSet(0, 1000, 0, 8), () -> x.ifSet(0, MIN, 0, 8), () -> x.ifSet(0, MAX, 0, 8),
            () -> x.ifSet(8, 1000, 0, 2));
    }

    @Says("Promise 40: NONE: no such ones")
    void ifSetInNoSuchSpan() {
        ModeDesk x = edited();
        noSpan(x, (l, r) -> x.ifSet(0, 4, l, r));
        due(new ModeDesk().ifSet(0, 4, 0, 0), NONE);
    }

    @Says("Promise 41: The MODE of a SPAN, were a PLACE of it left out")
    void ifOutAtBothEnds() {
        ModeDesk x = row();
        due(x.ifOut(0, 0, 8), 2);
        due(x.ifOut(8, 0, 8), 4);
        due(x.ifOut(4, 3, 4), 2);
        due(x.ifOut(3, 3, 4), 9);
    }

    @Says("Promise 41: The MODE of a SPAN, were a PLACE of it left out")
    void ifOutOfTiedValues() {
        ModeDesk x = Told.desk("row 8 3 3 8;ties last;");
        due(x.mode(0, 3, 0), 8);
        due(x.ifOut(0, 0, 3), 3);
        due(x.ifOut(1, 0, 3), 8);
        ModeDesk y = full(p -> p, "ties first;");
        due(y.ifOut(0, 0, 119), 1);
        due(y.ifOut(119, 0, 119), 0);
    }

    @Says("Promise 41: -2: it has no other one")
    void ifOutOfTheOnlyPlace() {
        ModeDesk x = row();
        due(x.ifOut(0, 0, 0), NOT_SO_MANY);
        due(x.ifOut(8, 8, 8), NOT_SO_MANY);
        due(desk(5).ifOut(0, 0, 0), NOT_SO_MANY);
    }

    @Says("Promise 41: NONE: no such SPAN")
    void ifOutOfNoSuchSpan() {
        ModeDesk x = edited();
        noSpan(x, (l, r) -> x.ifOut(l, l, r));
        ModeDesk y = edited();
        noSpan(y, (l, r) -> y.ifOut(r, l, r));
        due(new ModeDesk().ifOut(0, 0, 0), NONE);
    }

    @Says({"Promise 41: the PLACE isn't of it", "==== 4: Of several answers that hold NONE goes first"})
    void ifOutOfAPlaceElsewhere() {
        ModeDesk x = edited();
        refused(x, () -> x.ifOut(2, 3, 5), () -> x.ifOut(6, 3, 5), () -> x.ifOut(-1, 0, 5), () -> x.ifOut(9, 3, 8),
            () -> x.ifOut(MIN, 0, 8), () -> x.ifOut(MAX, 0, 8), () -> x.ifOut(3, 4, 4), () -> x.ifOut(5, 4, 4));
    }

    @Says("Promise 42: The MODE of a SPAN by other TIES (0 first, 1 last, 2 least, 3 most)")
    void ifTiesOfEach() {
        for (String own : new String[] {"first", "last", "least", "most"}) {
            ModeDesk x = tied(own);
            each(ties -> x.ifTies(ties, 0, 3), 8, 3, 3, 8);
            each(ties -> x.ifTies(ties, 2, 2), 3, 3, 3, 3);
        }
    }

    @Says({"Promise 42: The MODE of a SPAN by other TIES", "==== 4: What is asked changes nothing"})
    void ifTiesLeavesTheTies() {
        ModeDesk x = tied("last");
        unchanged(x, () -> due(x.ifTies(3, 0, 3), 8));
        due(x.mode(0, 3, 0), 3);
        due(x.count(3), 1);
    }

    @Says("Promise 42: NONE: no such ones")
    void ifTiesOfNoSuchTies() {
        ModeDesk x = edited();
        refused(x, () -> x.ifTies(-1, 0, 8), () -> x.ifTies(4, 0, 8), () -> x.ifTies(MIN, 0, 8), () -> x.ifTies(MAX, 0, 8));
    }

    @Says("Promise 42: NONE: no such ones")
    void ifTiesInNoSuchSpan() {
        ModeDesk x = edited();
        noSpan(x, (l, r) -> x.ifTies(0, l, r));
        due(new ModeDesk().ifTies(0, 0, 0), NONE);
    }

    // ---- Promise 43: lead, Promise 44: rarest ----

    @Says("==== 3: (than nothing, if there is none)")
    void leadOfOneValueAlone() {
        due(desk(5).lead(0, 0), 1);
        due(desk(5, 5, 5).lead(0, 2), 3);
        due(full(p -> 5, "").lead(0, 119), 120);
    }

    @Says("==== 3: LEAD of a SPAN: how much more often its MODE stands there than the one RANKED next")
    void leadOfTiedValues() {
        due(desk(5, 6).lead(0, 1), 0);
        due(desk(5, 6, 7, 7, 6).lead(0, 4), 0);
        due(desk(5, 5, 5, 6, 7).lead(0, 4), 2);
        due(full(p -> p < 61 ? 1 : 2, "").lead(0, 119), 2);
        due(full(p -> p, "").lead(0, 119), 0);
    }

    @Says("Promise 43: NONE: no such SPAN")
    void leadOfNoSuchSpan() {
        ModeDesk x = edited();
        noSpan(x, x::lead);
        due(new ModeDesk().lead(0, 0), NONE);
    }

    @Says("Promise 43: LEAD")
    void leadOfOnePlaceAtEachEnd() {
        ModeDesk x = row();
        due(x.lead(0, 0), 1);
        due(x.lead(8, 8), 1);
        due(x.lead(6, 8), 1);
        due(x.lead(7, 8), 2);
    }

    @Says("==== 3: RAREST: the one RANKED last")
    void rarestOfTiedValues() {
        due(tied("first").rarest(0, 3, 0), 3);
        due(tied("last").rarest(0, 3, 0), 8);
        due(tied("least").rarest(0, 3, 0), 8);
        due(tied("most").rarest(0, 3, 0), 3);
    }

    @Says("Promise 44: RAREST, what as of mode()")
    void rarestOfOneValueAlone() {
        ModeDesk x = desk(6, 5, 5, 5);
        each(what -> x.rarest(1, 3, what), 5, 3, 1, 3);
        each(what -> x.rarest(0, 3, what), 6, 1, 0, 0);
        each(what -> x.rarest(3, 3, what), 5, 1, 3, 3);
    }

    @Says("Promise 44: RAREST, what as of mode()")
    void rarestOfAFullRow() {
        ModeDesk x = full(p -> p == 60 ? 7 : 8, "");
        each(what -> x.rarest(0, 119, what), 7, 1, 60, 60);
        ModeDesk y = full(p -> p, "");
        each(what -> y.rarest(0, 119, what), 119, 1, 119, 119);
    }

    @Says("Promise 44: NONE: no such ones")
    void rarestOfNoSuchWhat() {
        ModeDesk x = edited();
        refused(x, () -> x.rarest(0, 8, -1), () -> x.rarest(0, 8, 4), () -> x.rarest(0, 8, MIN), () -> x.rarest(0, 8, MAX));
    }

    @Says("Promise 44: NONE: no such ones")
    void rarestOfNoSuchSpan() {
        ModeDesk x = edited();
        noSpan(x, (l, r) -> x.rarest(l, r, 0));
        due(new ModeDesk().rarest(0, 0, 0), NONE);
    }

    // ---- Promise 46: split ----

    @Says("==== 3: SPLIT of a SPAN into l .. m and m and 1 .. r")
    void splitOfTwoPlaces() {
        ModeDesk x = row();
        each(what -> x.split(0, 1, what), 0, 2);
        each(what -> x.split(7, 8, what), 7, 2);
    }

    @Says("==== 3: the least m of several")
    void splitOfSeveralAlike() {
        each(what -> desk(5, 5, 5, 5).split(0, 3, what), 0, 4);
        each(what -> desk(1, 2, 3, 4).split(0, 3, what), 0, 2);
        ModeDesk x = full(p -> 5, "");
        each(what -> x.split(0, 119, what), 0, 120);
    }

    @Says("==== 3: that by which both MODES stand together most often, each in its part")
    void splitAtTheFarEnds() {
        // 7 and 5 5 5; 5 5 5 and 7: at the first place and ahead of the last one.
        each(what -> desk(7, 5, 5, 5).split(0, 3, what), 0, 4);
        each(what -> desk(5, 5, 5, 7).split(0, 3, what), 2, 4);
        ModeDesk x = full(p -> p < 119 ? 5 : 7, "");
        each(what -> x.split(0, 119, what), 118, 120);
    }

    @Says("Promise 46: SPLIT, what 0 its m, 1 how often both stand")
    void splitWithinARow() {
        ModeDesk x = desk(9, 1, 1, 2, 2, 9);
        each(what -> x.split(1, 4, what), 2, 4);
    }

    @Says("Promise 46: NONE: no such SPAN of two PLACES at least")
    void splitOfOnePlace() {
        ModeDesk x = edited();
        refused(x, () -> x.split(0, 0, 0), () -> x.split(8, 8, 0), () -> x.split(4, 4, 1));
        due(desk(5).split(0, 0, 0), NONE);
    }

    @Says("Promise 46: NONE: no such SPAN of two PLACES at least")
    void splitOfNoSuchSpan() {
        ModeDesk x = edited();
        noSpan(x, (l, r) -> x.split(l, r, 0));
        due(new ModeDesk().split(0, 1, 0), NONE);
    }

    @Says("Promise 46: NONE: no such SPAN of two PLACES at least, what")
    void splitOfNoSuchWhat() {
        ModeDesk x = edited();
        refused(x, () -> x.split(0, 8, -1), () -> x.split(0, 8, 2), () -> x.split(0, 8, MIN), () -> x.split(0, 8, MAX));
    }

    // ---- Promise 47: together ----

    @Says("==== 3: then those of the other one that aren't of the first")
    void togetherOfSpansThatOverlap() {
        ModeDesk x = row();
        each(what -> x.together(0, 4, 4, 8, what), 4, 3);
        // 9 4 7 2 2, then 4 9 4 2.
        each(what -> x.together(4, 8, 0, 4, what), 4, 3);
        // 9 is at 4 and at 1; place 4 counts once.
        each(what -> x.together(4, 4, 1, 4, what), 9, 2);
    }

    @Says("==== 3: then those of the other one that aren't of the first")
    void togetherOfOneSpanWithinTheOther() {
        ModeDesk x = row();
        each(what -> x.together(0, 8, 3, 5, what), 4, 3);
        each(what -> x.together(3, 5, 0, 8, what), 2, 3);
        each(what -> x.together(0, 8, 0, 8, what), 4, 3);
        each(what -> x.together(6, 6, 6, 6, what), 7, 1);
    }

    @Says("==== 3: RANKED as if they stood so, one behind the other")
    void togetherRankedAsTheyWouldStand() {
        ModeDesk x = Told.desk("row 1 2 3 4;ties first;");
        due(x.together(2, 3, 0, 1, 0), 3);
        due(x.together(2, 2, 1, 3, 0), 3);
        ModeDesk y = Told.desk("row 1 2 3 4;ties last;");
        due(y.together(2, 3, 0, 1, 0), 2);
        due(y.together(0, 0, 0, 3, 0), 4);
        due(y.together(1, 3, 0, 3, 0), 1);
    }

    @Says("Promise 47: MODE of two SPANS TOGETHER (l to r, m to n), what 0 the VALUE, 1 how often")
    void togetherOfAFullRow() {
        ModeDesk x = full(p -> 5, "");
        each(what -> x.together(0, 119, 0, 119, what), 5, 120);
        each(what -> x.together(0, 59, 60, 119, what), 5, 120);
        ModeDesk y = full(p -> p, "");
        each(what -> y.together(60, 119, 0, 119, what), 60, 1);
    }

    @Says("Promise 47: MODE of two SPANS TOGETHER (l to r, m to n)")
    void togetherOfSpansThatTouch() {
        ModeDesk x = row();
        each(what -> x.together(0, 2, 3, 5, what), 4, 3);
        each(what -> x.together(8, 8, 0, 0, what), 2, 1);
    }

    @Says("Promise 47: NONE: no such ones")
    void togetherOfNoSuchSpans() {
        ModeDesk x = edited();
        noSpan(x, (l, r) -> x.together(l, r, 0, 8, 0));
        ModeDesk y = edited();
        noSpan(y, (l, r) -> y.together(0, 8, l, r, 0));
        due(new ModeDesk().together(0, 0, 0, 0, 0), NONE);
    }

    @Says("Promise 47: NONE: no such ones")
    void togetherOfNoSuchWhat() {
        ModeDesk x = edited();
        refused(x, () -> x.together(0, 2, 3, 5, -1), () -> x.together(0, 2, 3, 5, 2), () -> x.together(0, 2, 3, 5, MIN), () -> x.together(0, 2, 3, 5, MAX));
    }

    // ---- Promise 48: agree, Promise 49: peeled ----

    @Says("Promise 48: Whether the MODE of l .. m is that of m and 1 .. r (1, 0)")
    void agreeOfTwoPlaces() {
        due(desk(5, 5).agree(0, 0, 1), 1);
        due(desk(5, 6).agree(0, 0, 1), 0);
    }

    @Says("Promise 48: Whether the MODE of l .. m is that of m and 1 .. r (1, 0)")
    void agreeAtTheFarEnds() {
        ModeDesk x = desk(6, 5, 5, 5);
        each(m -> x.agree(0, m, 3), 0, 0, 1);
        ModeDesk y = full(p -> p == 0 ? 5 : 7, "");
        due(y.agree(0, 0, 119), 0);
        due(y.agree(0, 118, 119), 1);
    }

    @Says("Promise 48: NONE: no such SPANS")
    void agreeOfASecondSpanWithoutPlaces() {
        ModeDesk x = edited();
        refused(x, () -> x.agree(0, 8, 8), () -> x.agree(0, 5, 5), () -> x.agree(4, 4, 4), () -> x.agree(0, 8, 9));
        due(desk(5).agree(0, 0, 0), NONE);
        due(desk(5).agree(0, 0, 1), NONE);
    }

    @Says("Promise 48: NONE: no such SPANS")
    void agreeOfAFirstSpanWithoutPlaces() {
        ModeDesk x = edited();
        refused(x, () -> x.agree(3, 2, 8), () -> x.agree(0, -1, 8), () -> x.agree(-1, -1, 8), () -> x.agree(8, 7, 8));
    }

    @Says("Promise 48: NONE: no such SPANS")
    void agreeThatWouldWrapRound() {
        ModeDesk x = edited();
        refused(x, () -> x.agree(0, MAX, 8), () -> x.agree(0, MAX, MIN), () -> x.agree(MIN, 2, 8), () -> x.agree(0, MIN, 8),
            () -> x.agree(0, 2, MAX), () -> x.agree(0, 2, MIN), () -> x.agree(MAX, MAX, MIN));
    }

    @Says("Promise 48: NONE: no such SPANS")
    void agreeOfNoSuchSpans() {
        ModeDesk x = edited();
        noSpan(x, (l, r) -> x.agree(l, r, 8));
        ModeDesk y = edited();
        noSpan(y, (l, r) -> y.agree(l, l, r));
        ModeDesk z = edited();
        refused(z, () -> z.agree(-1, 2, 8), () -> z.agree(0, 2, 9));
        due(new ModeDesk().agree(0, 0, 1), NONE);
    }

    @Says("==== 3: PEELED is a SPAN: its MODE goes, all PLACES with it are left out, then the MODE of what is left goes, and so on")
    void peeledOneAfterTheOther() {
        ModeDesk x = row();
        each(k -> x.peeled(0, 8, k), 9, 6, 3, 1, 0, NOT_SO_MANY);
        each(k -> x.peeled(6, 8, k), 3, 1, 0, NOT_SO_MANY);
    }

    @Says("Promise 49: PEELED, k (0 on) MODES gone: how many PLACES are left")
    void peeledOfOnePlaceAndOfAFullRow() {
        each(k -> desk(5).peeled(0, 0, k), 1, 0, NOT_SO_MANY);
        ModeDesk x = full(p -> p, "");
        due(x.peeled(0, 119, 0), 120);
        due(x.peeled(0, 119, 119), 1);
        due(x.peeled(0, 119, 120), 0);
        due(x.peeled(0, 119, 121), NOT_SO_MANY);
        each(k -> full(p -> 5, "").peeled(0, 119, k), 120, 0, NOT_SO_MANY);
    }

    @Says("Promise 49: -2: there are not so many VALUES")
    void peeledOfTooMany() {
        ModeDesk x = row();
        due(x.peeled(0, 8, 5), NOT_SO_MANY);
        due(x.peeled(0, 8, MAX), NOT_SO_MANY);
        due(x.peeled(7, 8, 2), NOT_SO_MANY);
    }

    @Says("Promise 49: NONE: no such ones")
    void peeledByLessThanNone() {
        ModeDesk x = edited();
        refused(x, () -> x.peeled(0, 8, -1), () -> x.peeled(0, 8, MIN));
    }

    @Says({"Promise 49: NONE: no such ones", "==== 4: Of several answers that hold NONE goes first"})
    void peeledOfNoSuchSpan() {
        ModeDesk x = edited();
        noSpan(x, (l, r) -> x.peeled(l, r, 0));
        ModeDesk y = edited();
        noSpan(y, (l, r) -> y.peeled(l, r, 200));
        due(new ModeDesk().peeled(0, 0, 0), NONE);
    }
}
