/** What the document's first lines say of the desk as a whole, each of them asked of one row. */
public final class WholeTest extends Cases {
    public static void main(String[] args) throws ReflectiveOperationException {
        run(WholeTest.class);
    }

    private static ModeDesk row() {
        return Told.desk(ROW);
    }

    private static int mode(ModeDesk x) {
        return x.mode(0, x.count(0) - 1, 0);
    }

    @Says({"What it is: A desk for the most frequent value of any span of a row under edits: told as a text, set, weighed, put in, "
        + "taken out, filled, swapped, turned, moved round, replaced, sorted, undone"})
    void modeUnderOneEditAfterTheOther() {
        ModeDesk x = row();
        due(mode(x), 4);
        x.set(0, 2);
        due(mode(x), 2);
        x.weigh(1, 1);
        due(mode(x), 2);
        x.insert(0, 9);
        due(mode(x), 2);
        x.insert(0, 9);
        due(mode(x), 9);
        x.remove(0);
        row(x, 9, 2, 9, 4, 2, 9, 4, 7, 2, 2);
        due(mode(x), 2);
        x.fill(1, 3, 4);
        due(mode(x), 4);
        x.swap(0, 1);
        due(x.mode(0, 1, 0), 4);
        x.flip(0, 9);
        row(x, 2, 2, 7, 4, 9, 2, 4, 4, 9, 4);
        due(x.mode(0, 5, 0), 2);
        x.shift(0, 9, 2);
        due(x.mode(0, 1, 0), 9);
        x.replace(4, 7);
        due(mode(x), 7);
        x.sort(0, 9, true);
        row(x, 2, 2, 2, 7, 7, 7, 7, 7, 9, 9);
        due(x.mode(0, 4, 0), 2);
        due(x.count(6), 11);
        int[] modes = {7, 4, 4, 4, 4, 2, 9, 2, 2, 2, 4};
        for (int i = 0; i < modes.length; i++) {
            due("undo " + i, x.undo(), 10 - i);
            due("mode behind undo " + i, mode(x), modes[i]);
        }
        row(x, 4, 9, 4, 2, 9, 4, 7, 2, 2);
        weights(x, 1, 5, 1, 3, 1, 1, 1, 1, 1);
    }

    @Says("What it is: ranks of values in a span, ties by first or last place, by least or greatest value")
    void ranksAndTies() {
        ModeDesk x = row();
        each(k -> x.ranked(0, 8, k, 0), 4, 2, 9, 7, NOT_SO_MANY);
        each(ties -> x.ifTies(ties, 3, 4), 2, 9, 2, 9);
        each(ties -> x.ifTies(ties, 1, 2), 9, 4, 4, 9);
    }

    @Says("What it is: blocks and what is kept for each two of them, which of that an edit makes new")
    void pairsOfBlocks() {
        ModeDesk x = row();
        due(x.count(2), 3);
        each(j -> x.pair(0, j, 0), 4, 4, 4, NONE);
        each(i -> x.pair(i, 2, 0), 4, 2, 2, NONE);
        x.set(4, 4);
        due(x.refreshed(), 4);
        due(x.pair(1, 1, 0), 4);
    }

    @Says("What it is: which values must be looked at")
    void valuesThatMustBeLookedAt() {
        ModeDesk x = row();
        each(k -> x.candidate(0, 6, k), 4, 7, NOT_SO_MANY);
        each(k -> x.candidate(1, 7, k), 9, 4, 2, 7, NOT_SO_MANY);
    }

    @Says("What it is: places of a value, the next one")
    void placesOfAValue() {
        ModeDesk x = row();
        each(k -> x.at(4, k), 0, 2, 5, NOT_SO_MANY);
        each(p -> x.follow(9, p, false), 1, 1, 4, 4, 4, NOT_SO_MANY);
        each(p -> Told.place(x, p, 4), 2, 4, 5, 7, NOT_SO_MANY, NOT_SO_MANY, NOT_SO_MANY, 8, NOT_SO_MANY);
    }

    @Says("What it is: majorities, weights, medians, what spans have in common")
    void majoritiesWeightsMediansCommon() {
        ModeDesk x = row();
        due(x.majority(6, 8), 2);
        due(x.majority(0, 8), NOT_SO_MANY);
        due(x.heaviest(0, 8, 0), 9);
        due(x.heaviest(0, 8, 1), 6);
        due(x.median(0, 8), 4);
        due(x.common(0, 2, 4), 2);
    }

    @Says("What it is: windows and how often their mode changes")
    void windowsAndTheirModes() {
        ModeDesk x = row();
        each(k -> x.window(3, k), 4, 9, 4, 2, 9, 4, 2, NOT_SO_MANY);
        each(what -> x.windows(3, what), 6, 3, 4, NONE);
    }

    @Says("What it is: spans by their mode, the longest, the tightest with so many alike")
    void spansByTheirMode() {
        ModeDesk x = row();
        due(x.spans(7), 2);
        each(what -> x.longest(7, what), 6, 7, NONE);
        each(what -> x.tightest(3, what), 0, 5, 4, NONE);
        each(what -> x.tightest(2, what), 7, 8, 2, NONE);
    }

    @Says("What it is: what would be")
    void whatWouldBe() {
        ModeDesk x = row();
        unchanged(x, () -> {
            due(x.ifSet(6, 2, 0, 8), 2);
            due(x.ifOut(0, 0, 8), 2);
        });
        x.set(6, 2);
        due(mode(x), 2);
        x.undo();
        x.remove(0);
        due(mode(x), 2);
    }

    @Says("What it is: how many must be changed")
    void howManyMustBeChanged() {
        ModeDesk x = row();
        due(x.needed(0, 8, 7), 2);
        x.set(0, 7);
        due(x.needed(0, 8, 7), 1);
        x.set(3, 7);
        due(x.needed(0, 8, 7), 0);
        due(mode(x), 7);
    }

    @Says("What it is: the fewest parts with a majority each")
    void fewestParts() {
        ModeDesk x = row();
        due(x.part(NONE), 5);
        each(k -> x.part(k), 0, 3, 4, 5, 6, NOT_SO_MANY);
    }
}
