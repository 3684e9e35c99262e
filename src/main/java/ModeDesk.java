import java.util.NoSuchElementException;

/** A desk for the most frequent value of any span of a row under edits; see ../shared/DOC.md. */
public final class ModeDesk {
    public static final int NONE = -1;

    private static final int NOT_SO_MANY = -2;
    private static final int VALUES = 1000;
    private static final int MOST_PLACES = 120;
    private static final int MOST_WEIGHT = 9;
    private static final int MOST_EDITS = 12;
    private static final int MOST_BYTES = 900;
    private static final int BYTES_FED = 20;
    private static final int LEAST_BLOCK = 2;
    private static final int MOST_BLOCK = 20;
    private static final int USUAL_BLOCK = 8;
    private static final int TIES_FIRST = 0;
    private static final int TIES_LAST = 1;
    private static final int TIES_LEAST = 2;
    private static final int TIES_MOST = 3;

    private final Tape tape = new Tape();
    private final Reader reader = new Reader();
    private final Row row = new Row();
    // An edit is tried here first, so that one by which nothing is other leaves no trace.
    private final Row next = new Row();
    private final Past past = new Past();
    private final Tally tally = new Tally();
    private final Tally aside = new Tally();
    private final int[] ahead = new int[MOST_PLACES + 1];
    private int block = USUAL_BLOCK;
    private int ties = TIES_FIRST;
    private int lines = 0;
    private int pairsMadeNew = NOT_SO_MANY;

    public ModeDesk() {
    }

    // ---- the text ----

    public int feed(int a, int b, int c, int d, int e) {
        if (tape.fed + BYTES_FED > MOST_BYTES) {
            return NONE;
        }
        tape.put(a);
        tape.put(b);
        tape.put(c);
        tape.put(d);
        tape.put(e);
        return tape.fed;
    }

    public int text(int n) {
        if (n < 0 || n > tape.fed) {
            return NOT_SO_MANY;
        }
        boolean good = reader.read(tape, n);
        tape.fed = 0;
        if (!good) {
            return NONE;
        }
        row.take(reader.row);
        block = reader.block;
        ties = reader.ties;
        lines = reader.lines;
        past.held = 0;
        pairsMadeNew = NOT_SO_MANY;
        return lines;
    }

    public int fault(int what) {
        if (what == 0) {
            return reader.fault;
        }
        return what == 1 ? reader.faultPlace : NONE;
    }

    // ---- one place ----

    public int place(int p, int what) throws IndexOutOfBoundsException, NoSuchElementException {
        if (!row.has(p)) {
            throw new IndexOutOfBoundsException("no such place");
        }
        int v = row.values[p];
        switch (what) {
            case 0:
                return v;
            case 1:
                return row.weights[p];
            case 2:
                return p / block;
            case 3:
                return row.howOften(v, 0, p - 1);
            case 4:
                return row.from(v, p + 1);
            case 5:
                return row.upTo(v, p - 1);
            default:
                throw new NoSuchElementException("no such what");
        }
    }

    // ---- edits ----

    public int set(int p, int v) {
        if (!row.has(p) || !isValue(v)) {
            return NONE;
        }
        int old = row.values[p];
        next.take(row);
        next.values[p] = v;
        settle();
        return old;
    }

    public int weigh(int p, int w) {
        if (!row.has(p) || w < 1 || w > MOST_WEIGHT) {
            return NONE;
        }
        int old = row.weights[p];
        next.take(row);
        next.weights[p] = w;
        settle();
        return old;
    }

    public int insert(int p, int v) {
        if (p < 0 || p > row.size || !isValue(v) || row.size >= MOST_PLACES) {
            return NONE;
        }
        next.take(row);
        next.open(p, v);
        settle();
        return row.size;
    }

    public int remove(int p) {
        if (!row.has(p)) {
            return NONE;
        }
        int old = row.values[p];
        next.take(row);
        next.close(p);
        settle();
        return old;
    }

    public int fill(int l, int r, int v) {
        if (!row.hasSpan(l, r) || !isValue(v)) {
            return NONE;
        }
        next.take(row);
        for (int p = l; p <= r; p++) {
            next.values[p] = v;
        }
        return settle();
    }

    public boolean swap(int p, int q) {
        if (!row.has(p) || !row.has(q) || p == q) {
            return false;
        }
        next.take(row);
        next.exchange(p, q);
        settle();
        return true;
    }

    public int flip(int l, int r) {
        if (!row.hasSpan(l, r)) {
            return NONE;
        }
        next.take(row);
        next.turn(l, r);
        return settle();
    }

    public int shift(int l, int r, int k) {
        if (!row.hasSpan(l, r) || k < 0 || k > r - l + 1) {
            return NONE;
        }
        next.take(row);
        // Turned as a whole and then each part again: all have moved k on, with no second row.
        next.turn(l, r);
        next.turn(l, l + k - 1);
        next.turn(l + k, r);
        return settle();
    }

    public int replace(int v, int w) {
        if (!isValue(v) || !isValue(w)) {
            return NONE;
        }
        next.take(row);
        for (int p = 0; p < next.size; p++) {
            if (next.values[p] == v) {
                next.values[p] = w;
            }
        }
        return settle();
    }

    public int sort(int l, int r, boolean rising) {
        if (!row.hasSpan(l, r)) {
            return NONE;
        }
        next.take(row);
        next.order(l, r, rising);
        return settle();
    }

    public int refreshed() {
        return pairsMadeNew;
    }

    public int undo() {
        if (past.held == 0) {
            return NONE;
        }
        Row before = past.ago(1);
        pairsMadeNew = pairsTouched(row, before);
        row.take(before);
        past.dropLatest();
        return past.held;
    }

    public int was(int k, int p) {
        if (k < 0 || k > past.held || p < 0) {
            return NONE;
        }
        Row then = k == 0 ? row : past.ago(k);
        return then.has(p) ? then.values[p] : NOT_SO_MANY;
    }

    public int since(int p) {
        if (!row.has(p)) {
            return NONE;
        }
        for (int k = 0; k < past.held; k++) {
            Row then = past.ago(k + 1);
            if (!then.has(p) || then.values[p] != row.values[p]) {
                return k;
            }
        }
        return NOT_SO_MANY;
    }

    // ---- ranks in one span ----

    public int mode(int l, int r, int what) {
        if (!row.hasSpan(l, r) || !isBelow(what, 4)) {
            return NONE;
        }
        tallySpan(l, r);
        return tally.told(tally.best, what, l);
    }

    public int ranked(int l, int r, int k, int what) {
        if (!row.hasSpan(l, r) || k < 0 || !isBelow(what, 4)) {
            return NONE;
        }
        tallySpan(l, r);
        if (k >= tally.kinds) {
            return NOT_SO_MANY;
        }
        tally.order();
        return tally.told(tally.kind[k], what, l);
    }

    public int rank(int l, int r, int v) {
        if (!row.hasSpan(l, r) || !isValue(v)) {
            return NONE;
        }
        tallySpan(l, r);
        if (tally.number[v] == 0) {
            return NOT_SO_MANY;
        }
        int before = 0;
        for (int i = 0; i < tally.kinds; i++) {
            if (tally.isAhead(tally.kind[i], v)) {
                before++;
            }
        }
        return before;
    }

    public int often(int l, int r, int v) {
        if (!row.hasSpan(l, r) || !isValue(v)) {
            return NONE;
        }
        return row.howOften(v, l, r);
    }

    public int unlike(int l, int r) {
        if (!row.hasSpan(l, r)) {
            return NONE;
        }
        tallySpan(l, r);
        return tally.kinds;
    }

    public int times(int l, int r, int n) {
        if (!row.hasSpan(l, r) || n < 1) {
            return NONE;
        }
        tallySpan(l, r);
        int found = 0;
        for (int i = 0; i < tally.kinds; i++) {
            if (tally.number[tally.kind[i]] == n) {
                found++;
            }
        }
        return found;
    }

    public int majority(int l, int r) {
        if (!row.hasSpan(l, r)) {
            return NONE;
        }
        tallySpan(l, r);
        return tally.hasMajority() ? tally.best : NOT_SO_MANY;
    }

    public int heaviest(int l, int r, int what) {
        if (!row.hasSpan(l, r) || !isBelow(what, 2)) {
            return NONE;
        }
        tallySpan(l, r);
        int chosen = tally.best;
        int most = 0;
        for (int i = 0; i < tally.kinds; i++) {
            int v = tally.kind[i];
            int weight = row.weightOf(v, l, r);
            if (weight > most || (weight == most && tally.isAhead(v, chosen))) {
                chosen = v;
                most = weight;
            }
        }
        return what == 0 ? chosen : most;
    }

    public int lead(int l, int r) {
        if (!row.hasSpan(l, r)) {
            return NONE;
        }
        tallySpan(l, r);
        int second = 0;
        for (int i = 0; i < tally.kinds; i++) {
            int v = tally.kind[i];
            if (v != tally.best) {
                second = Math.max(second, tally.number[v]);
            }
        }
        return tally.most() - second;
    }

    public int rarest(int l, int r, int what) {
        if (!row.hasSpan(l, r) || !isBelow(what, 4)) {
            return NONE;
        }
        tallySpan(l, r);
        int chosen = tally.best;
        for (int i = 0; i < tally.kinds; i++) {
            if (tally.isAhead(chosen, tally.kind[i])) {
                chosen = tally.kind[i];
            }
        }
        return tally.told(chosen, what, l);
    }

    public int peeled(int l, int r, int k) {
        if (!row.hasSpan(l, r) || k < 0) {
            return NONE;
        }
        tallySpan(l, r);
        if (k > tally.kinds) {
            return NOT_SO_MANY;
        }
        // What is left keeps its ranks among itself, so the modes go in the span's own order.
        tally.order();
        int left = r - l + 1;
        for (int i = 0; i < k; i++) {
            left -= tally.number[tally.kind[i]];
        }
        return left;
    }

    public int needed(int l, int r, int v) {
        if (!row.hasSpan(l, r) || !isValue(v)) {
            return NONE;
        }
        tallySpan(l, r);
        int own = tally.number[v];
        int others = r - l + 1 - own;
        for (int x = 0; x < others; x++) {
            if (tally.tooMany(v, own + x - 1) <= x) {
                return x;
            }
        }
        return others;
    }

    // ---- blocks ----

    public int pair(int i, int j, int what) {
        if (i < 0 || i > j || j >= blocksOf(row) || !isBelow(what, 2)) {
            return NONE;
        }
        tallySpan(i * block, blockEnd(row, j) - 1);
        return tally.told(tally.best, what, 0);
    }

    public int candidate(int l, int r, int k) {
        if (!row.hasSpan(l, r) || k < NONE) {
            return NONE;
        }
        markCandidates(l, r);
        tallySpan(l, r);
        tally.order();
        int found = 0;
        for (int i = 0; i < tally.kinds; i++) {
            if (aside.number[tally.kind[i]] > 0) {
                if (found == k) {
                    return tally.kind[i];
                }
                found++;
            }
        }
        return k == NONE ? found : NOT_SO_MANY;
    }

    // ---- places of a value ----

    public int at(int v, int k) {
        if (!isValue(v) || k < 0) {
            return NONE;
        }
        int left = k;
        for (int p = 0; p < row.size; p++) {
            if (row.values[p] == v) {
                if (left == 0) {
                    return p;
                }
                left--;
            }
        }
        return NOT_SO_MANY;
    }

    public int follow(int v, int p, boolean back) {
        if (!isValue(v) || !row.has(p)) {
            return NONE;
        }
        return back ? row.upTo(v, p) : row.from(v, p);
    }

    public int gap(int v) {
        if (!isValue(v)) {
            return NONE;
        }
        int widest = NOT_SO_MANY;
        int before = NONE;
        for (int p = 0; p < row.size; p++) {
            if (row.values[p] == v) {
                if (before != NONE) {
                    widest = Math.max(widest, p - before);
                }
                before = p;
            }
        }
        return widest;
    }

    // ---- over a span ----

    public int median(int l, int r) {
        if (!row.hasSpan(l, r)) {
            return NONE;
        }
        tallySpan(l, r);
        int left = (r - l) / 2;
        for (int v = 0; v < VALUES; v++) {
            left -= tally.number[v];
            if (left < 0) {
                return v;
            }
        }
        return NONE;
    }

    public int twisted(int l, int r) {
        if (!row.hasSpan(l, r)) {
            return NONE;
        }
        int found = 0;
        for (int p = l; p <= r; p++) {
            for (int q = p + 1; q <= r; q++) {
                if (row.values[p] > row.values[q]) {
                    found++;
                }
            }
        }
        return found;
    }

    public int run(int l, int r, int what) {
        if (!row.hasSpan(l, r) || !isBelow(what, 3)) {
            return NONE;
        }
        int from = l;
        int longestFrom = l;
        int length = 0;
        for (int p = l; p <= r; p++) {
            if (row.values[p] != row.values[from]) {
                from = p;
            }
            if (p - from + 1 > length) {
                longestFrom = from;
                length = p - from + 1;
            }
        }
        return spanTold(longestFrom, length, what);
    }

    public int common(int l, int r, int m) {
        if (!row.hasSpan(l, r) || !row.has(m) || !row.has(m + (r - l))) {
            return NONE;
        }
        tallySpan(l, r);
        aside.begin(ties);
        for (int p = m; p <= m + (r - l); p++) {
            aside.push(row.values[p]);
        }
        int alike = 0;
        for (int i = 0; i < tally.kinds; i++) {
            int v = tally.kind[i];
            alike += Math.min(tally.number[v], aside.number[v]);
        }
        return alike;
    }

    public int together(int l, int r, int m, int n, int what) {
        if (!row.hasSpan(l, r) || !row.hasSpan(m, n) || !isBelow(what, 2)) {
            return NONE;
        }
        tallySpan(l, r);
        for (int p = m; p <= n; p++) {
            if (p < l || p > r) {
                tally.push(row.values[p]);
            }
        }
        return tally.told(tally.best, what, 0);
    }

    public int agree(int l, int m, int r) {
        if (!row.hasSpan(l, m) || !row.hasSpan(m + 1, r)) {
            return NONE;
        }
        return modeOf(l, m) == modeOf(m + 1, r) ? 1 : 0;
    }

    public int split(int l, int r, int what) {
        if (!row.hasSpan(l, r) || l == r || !isBelow(what, 2)) {
            return NONE;
        }
        tally.begin(ties);
        for (int m = l; m < r; m++) {
            tally.push(row.values[m]);
            ahead[m] = tally.most();
        }
        tally.begin(ties);
        int least = l;
        int most = 0;
        for (int m = r - 1; m >= l; m--) {
            tally.push(row.values[m + 1]);
            if (ahead[m] + tally.most() >= most) {
                least = m;
                most = ahead[m] + tally.most();
            }
        }
        return what == 0 ? least : most;
    }

    // ---- what would be ----

    public int ifSet(int p, int v, int l, int r) {
        if (!row.has(p) || !isValue(v) || !row.hasSpan(l, r)) {
            return NONE;
        }
        tally.begin(ties);
        for (int q = l; q <= r; q++) {
            tally.push(q == p ? v : row.values[q]);
        }
        return tally.best;
    }

    public int ifOut(int p, int l, int r) {
        if (!row.hasSpan(l, r) || p < l || p > r) {
            return NONE;
        }
        if (l == r) {
            return NOT_SO_MANY;
        }
        tally.begin(ties);
        for (int q = l; q <= r; q++) {
            if (q != p) {
                tally.push(row.values[q]);
            }
        }
        return tally.best;
    }

    public int ifTies(int ties, int l, int r) {
        if (ties < TIES_FIRST || ties > TIES_MOST || !row.hasSpan(l, r)) {
            return NONE;
        }
        tally.begin(ties);
        for (int p = l; p <= r; p++) {
            tally.push(row.values[p]);
        }
        return tally.best;
    }

    // ---- windows and all spans ----

    public int window(int w, int k) {
        if (w < 1 || w > row.size || k < 0) {
            return NONE;
        }
        if (k > row.size - w) {
            return NOT_SO_MANY;
        }
        return modeOf(k, k + w - 1);
    }

    public int windows(int w, int what) {
        if (w < 1 || w > row.size || !isBelow(what, 3)) {
            return NONE;
        }
        int changes = 0;
        int before = NONE;
        aside.begin(TIES_LEAST);
        for (int l = 0; l <= row.size - w; l++) {
            int mode = modeOf(l, l + w - 1);
            if (l > 0 && mode != before) {
                changes++;
            }
            aside.push(mode);
            before = mode;
        }
        if (what == 0) {
            return changes;
        }
        return what == 1 ? aside.kinds : aside.best;
    }

    public int beginnings(int what) {
        if (!isBelow(what, 4)) {
            return NONE;
        }
        int changes = 0;
        int since = 0;
        int longest = NOT_SO_MANY;
        int before = NONE;
        tally.begin(ties);
        aside.begin(TIES_LEAST);
        for (int r = 0; r < row.size; r++) {
            tally.push(row.values[r]);
            aside.push(tally.best);
            if (r > 0 && tally.best != before) {
                changes++;
                since = r;
            }
            longest = Math.max(longest, r - since);
            before = tally.best;
        }
        switch (what) {
            case 0:
                return changes;
            case 1:
                return changes == 0 ? NOT_SO_MANY : since;
            case 2:
                return aside.kinds;
            default:
                return longest;
        }
    }

    public int spans(int v) {
        if (!isValue(v)) {
            return NONE;
        }
        int found = 0;
        for (int l = 0; l < row.size; l++) {
            tally.begin(ties);
            for (int r = l; r < row.size; r++) {
                tally.push(row.values[r]);
                if (tally.best == v) {
                    found++;
                }
            }
        }
        return found;
    }

    public int longest(int v, int what) {
        if (!isValue(v) || !isBelow(what, 2)) {
            return NONE;
        }
        int from = 0;
        int length = 0;
        for (int l = 0; l < row.size - length; l++) {
            tally.begin(ties);
            for (int r = l; r < row.size; r++) {
                tally.push(row.values[r]);
                if (tally.best == v && r - l + 1 > length) {
                    from = l;
                    length = r - l + 1;
                }
            }
        }
        return spanTold(from, length, what);
    }

    public int reign(int v, int what) {
        if (!isValue(v) || !isBelow(what, 2)) {
            return NONE;
        }
        int from = 0;
        int length = 0;
        for (int l = 0; l < row.size - length; l++) {
            int own = 0;
            for (int r = l; r < row.size; r++) {
                if (row.values[r] == v) {
                    own++;
                }
                if (2 * own > r - l + 1 && r - l + 1 > length) {
                    from = l;
                    length = r - l + 1;
                }
            }
        }
        return spanTold(from, length, what);
    }

    public int tightest(int k, int what) {
        if (k < 1 || !isBelow(what, 3)) {
            return NONE;
        }
        int from = 0;
        int length = 0;
        for (int l = 0; l < row.size; l++) {
            // The tightest span begins and ends with its value: else a place less would do.
            int r = row.nth(row.values[l], l, k);
            if (r != NOT_SO_MANY && (length == 0 || r - l + 1 < length)) {
                from = l;
                length = r - l + 1;
            }
        }
        return spanTold(from, length, what);
    }

    public int wide(int k) {
        if (k < 1) {
            return NONE;
        }
        for (int l = 0; l < row.size; l++) {
            ahead[l] = widthWith(k, l);
        }
        for (int w = 1; w <= row.size; w++) {
            int good = 0;
            while (good <= row.size - w && ahead[good] <= w) {
                good++;
            }
            if (good > row.size - w) {
                return w;
            }
        }
        return NOT_SO_MANY;
    }

    public int part(int k) {
        if (k < NONE) {
            return NONE;
        }
        fewestParts();
        int parts = ahead[0];
        if (k == NONE) {
            return parts;
        }
        if (k >= parts) {
            return NOT_SO_MANY;
        }
        int l = 0;
        for (int i = 0; i < k; i++) {
            l = behindPart(l);
        }
        return l;
    }

    public int count(int what) {
        switch (what) {
            case 0:
                return row.size;
            case 1:
                return block;
            case 2:
                return blocksOf(row);
            case 3:
                return ties;
            case 4:
                return lines;
            case 5:
                tallySpan(0, row.size - 1);
                return tally.kinds;
            case 6:
                return past.held;
            case 7:
                return row.allWeights();
            case 8:
                return tape.fed;
            default:
                return NONE;
        }
    }

    // ---- helpers ----

    private static boolean isValue(int v) {
        return v >= 0 && v < VALUES;
    }

    private static boolean isBelow(int what, int bound) {
        return what >= 0 && what < bound;
    }

    /** Makes the edit that was tried in next, and answers how many places have another value. */
    private int settle() {
        if (next.isLike(row)) {
            return 0;
        }
        int others = 0;
        for (int p = 0; p < next.size; p++) {
            if (next.isOtherThan(row, p)) {
                others++;
            }
        }
        past.keep(row);
        pairsMadeNew = pairsTouched(row, next);
        row.take(next);
        return others;
    }

    private int pairsTouched(Row before, Row behind) {
        int blocks = blocksOf(behind);
        int untouched = 0;
        int inARow = 0;
        for (int b = 0; b < blocks; b++) {
            inARow = isTouched(before, behind, b) ? 0 : inARow + 1;
            // So many pairs that end with this block have no touched block in them.
            untouched += inARow;
        }
        return blocks * (blocks + 1) / 2 - untouched;
    }

    private boolean isTouched(Row before, Row behind, int b) {
        int end = blockEnd(behind, b);
        for (int p = b * block; p < end; p++) {
            if (behind.isOtherThan(before, p)) {
                return true;
            }
        }
        return end < blockEnd(before, b);
    }

    private int blocksOf(Row of) {
        return (of.size + block - 1) / block;
    }

    private int blockEnd(Row of, int b) {
        return Math.min(of.size, (b + 1) * block);
    }

    private void tallySpan(int l, int r) {
        tally.begin(ties);
        for (int p = l; p <= r; p++) {
            tally.push(row.values[p]);
        }
    }

    private int modeOf(int l, int r) {
        tallySpan(l, r);
        return tally.best;
    }

    /** Leaves in the tally aside just the candidates of a span. */
    private void markCandidates(int l, int r) {
        int wholeFrom = (l + block - 1) / block * block;
        int wholeEnd = r == row.size - 1 ? row.size : (r + 1) / block * block;
        aside.begin(ties);
        if (wholeFrom < wholeEnd) {
            aside.push(modeOf(wholeFrom, wholeEnd - 1));
        }
        for (int p = l; p <= r; p++) {
            if (p < wholeFrom || p >= wholeEnd) {
                aside.push(row.values[p]);
            }
        }
    }

    private int spanTold(int l, int length, int what) {
        if (length == 0) {
            return NOT_SO_MANY;
        }
        if (what == 2) {
            return row.values[l];
        }
        return what == 0 ? l : l + length - 1;
    }

    /** How many places from l on some value needs to stand k times; more than there are, if none does. */
    private int widthWith(int k, int l) {
        tally.begin(ties);
        for (int r = l; r < row.size; r++) {
            tally.push(row.values[r]);
            if (tally.most() >= k) {
                return r - l + 1;
            }
        }
        return MOST_PLACES + 1;
    }

    /** Leaves in ahead, for each place, the fewest parts that all places from there on need. */
    private void fewestParts() {
        ahead[row.size] = 0;
        for (int l = row.size - 1; l >= 0; l--) {
            ahead[l] = MOST_PLACES;
            tally.begin(ties);
            for (int r = l; r < row.size; r++) {
                tally.push(row.values[r]);
                if (tally.hasMajority()) {
                    ahead[l] = Math.min(ahead[l], ahead[r + 1] + 1);
                }
            }
        }
    }

    private int behindPart(int l) {
        tally.begin(ties);
        for (int r = l; r < row.size; r++) {
            tally.push(row.values[r]);
            if (tally.hasMajority() && ahead[r + 1] + 1 == ahead[l]) {
                return r + 1;
            }
        }
        return row.size;
    }

    /** The places with their values and weights. */
    private static final class Row {
        final int[] values = new int[MOST_PLACES];
        final int[] weights = new int[MOST_PLACES];
        int size = 0;

        boolean has(int p) {
            return p >= 0 && p < size;
        }

        boolean hasSpan(int l, int r) {
            return l >= 0 && l <= r && r < size;
        }

        void take(Row other) {
            size = other.size;
            for (int p = 0; p < size; p++) {
                values[p] = other.values[p];
                weights[p] = other.weights[p];
            }
        }

        boolean isLike(Row other) {
            if (size != other.size) {
                return false;
            }
            for (int p = 0; p < size; p++) {
                if (values[p] != other.values[p] || weights[p] != other.weights[p]) {
                    return false;
                }
            }
            return true;
        }

        boolean isOtherThan(Row other, int p) {
            return p >= other.size || values[p] != other.values[p];
        }

        void open(int p, int v) {
            for (int q = size; q > p; q--) {
                values[q] = values[q - 1];
                weights[q] = weights[q - 1];
            }
            values[p] = v;
            weights[p] = 1;
            size++;
        }

        void close(int p) {
            size--;
            for (int q = p; q < size; q++) {
                values[q] = values[q + 1];
                weights[q] = weights[q + 1];
            }
        }

        void exchange(int p, int q) {
            int value = values[p];
            int weight = weights[p];
            values[p] = values[q];
            weights[p] = weights[q];
            values[q] = value;
            weights[q] = weight;
        }

        void turn(int l, int r) {
            for (int i = 0; l + i < r - i; i++) {
                exchange(l + i, r - i);
            }
        }

        void order(int l, int r, boolean rising) {
            for (int p = l + 1; p <= r; p++) {
                // Only neighbours that are unlike change places, so like ones stay as they stood.
                for (int q = p; q > l && isWrong(values[q - 1], values[q], rising); q--) {
                    exchange(q - 1, q);
                }
            }
        }

        private boolean isWrong(int before, int behind, boolean rising) {
            return rising ? before > behind : before < behind;
        }

        int howOften(int v, int l, int r) {
            int found = 0;
            for (int p = l; p <= r; p++) {
                if (values[p] == v) {
                    found++;
                }
            }
            return found;
        }

        int weightOf(int v, int l, int r) {
            int sum = 0;
            for (int p = l; p <= r; p++) {
                if (values[p] == v) {
                    sum += weights[p];
                }
            }
            return sum;
        }

        int allWeights() {
            int sum = 0;
            for (int p = 0; p < size; p++) {
                sum += weights[p];
            }
            return sum;
        }

        int from(int v, int l) {
            return nth(v, l, 1);
        }

        int upTo(int v, int r) {
            for (int p = r; p >= 0; p--) {
                if (values[p] == v) {
                    return p;
                }
            }
            return NOT_SO_MANY;
        }

        /** The place from l on at which a value stands for the k-th time, counted from 1. */
        int nth(int v, int l, int k) {
            int left = k;
            for (int p = l; p < size; p++) {
                if (values[p] == v) {
                    left--;
                    if (left == 0) {
                        return p;
                    }
                }
            }
            return NOT_SO_MANY;
        }
    }

    /** The rows as they were ahead of the latest edits, in a ring, so that the eldest is written over. */
    private static final class Past {
        final Row[] rows = new Row[MOST_EDITS];
        int held = 0;
        int latest = 0;

        Past() {
            for (int i = 0; i < MOST_EDITS; i++) {
                rows[i] = new Row();
            }
        }

        void keep(Row row) {
            latest = (latest + 1) % MOST_EDITS;
            rows[latest].take(row);
            held = Math.min(held + 1, MOST_EDITS);
        }

        Row ago(int k) {
            return rows[Math.floorMod(latest - (k - 1), MOST_EDITS)];
        }

        void dropLatest() {
            latest = Math.floorMod(latest - 1, MOST_EDITS);
            held--;
        }
    }

    /** How often values stand in what was pushed, and their ranks. */
    private static final class Tally {
        final int[] number = new int[VALUES];
        final int[] first = new int[VALUES];
        final int[] last = new int[VALUES];
        final int[] kind = new int[MOST_PLACES];
        int kinds = 0;
        int length = 0;
        int best = NONE;
        int ties = TIES_FIRST;

        void begin(int byTies) {
            for (int i = 0; i < kinds; i++) {
                number[kind[i]] = 0;
            }
            kinds = 0;
            length = 0;
            best = NONE;
            ties = byTies;
        }

        void push(int v) {
            if (number[v] == 0) {
                first[v] = length;
                kind[kinds] = v;
                kinds++;
            }
            number[v]++;
            last[v] = length;
            length++;
            // Only v has come further ahead, so none but v can take the first rank.
            if (best == NONE || isAhead(v, best)) {
                best = v;
            }
        }

        boolean isAhead(int v, int other) {
            if (number[v] != number[other]) {
                return number[v] > number[other];
            }
            switch (ties) {
                case TIES_FIRST:
                    return first[v] < first[other];
                case TIES_LAST:
                    return last[v] > last[other];
                case TIES_LEAST:
                    return v < other;
                default:
                    return v > other;
            }
        }

        void order() {
            for (int i = 1; i < kinds; i++) {
                int v = kind[i];
                int k = i;
                while (k > 0 && isAhead(v, kind[k - 1])) {
                    kind[k] = kind[k - 1];
                    k--;
                }
                kind[k] = v;
            }
        }

        int most() {
            return best == NONE ? 0 : number[best];
        }

        boolean hasMajority() {
            return 2 * most() > length;
        }

        /** How many places all but v stand at beyond a bound for each of them. */
        int tooMany(int v, int bound) {
            int sum = 0;
            for (int i = 0; i < kinds; i++) {
                if (kind[i] != v) {
                    sum += Math.max(0, number[kind[i]] - bound);
                }
            }
            return sum;
        }

        int told(int v, int what, int l) {
            switch (what) {
                case 0:
                    return v;
                case 1:
                    return number[v];
                case 2:
                    return l + first[v];
                default:
                    return l + last[v];
            }
        }
    }

    /** The bytes fed, and the tokens of the text in them. */
    private static final class Tape {
        static final int END = 0;
        static final int WORD = 1;
        static final int NUMBER = 2;
        static final int SEMICOLON = 3;
        static final int STRANGE = 4;
        // Beyond every bound of the document, and far enough from where an int turns over.
        private static final int MUCH = 100000;

        final char[] bytes = new char[MOST_BYTES];
        int fed = 0;
        int end = 0;
        int at = 0;
        int start = 0;
        int token = END;
        int number = 0;

        void put(int four) {
            for (int bits = 24; bits >= 0; bits -= 8) {
                bytes[fed] = (char) ((four >>> bits) & 255);
                fed++;
            }
        }

        void begin(int n) {
            end = n;
            at = 0;
            advance();
        }

        void advance() {
            while (at < end && isBlank(bytes[at])) {
                at++;
            }
            start = at;
            if (at >= end) {
                token = END;
            } else if (isLetter(bytes[at])) {
                readWord();
            } else if (isDigit(bytes[at])) {
                readNumber();
            } else {
                token = bytes[at] == ';' ? SEMICOLON : STRANGE;
                at++;
            }
        }

        private void readWord() {
            token = WORD;
            while (at < end && isLetter(bytes[at])) {
                at++;
            }
        }

        private void readNumber() {
            token = NUMBER;
            number = 0;
            while (at < end && isDigit(bytes[at])) {
                number = Math.min(number * 10 + (bytes[at] - '0'), MUCH);
                at++;
            }
        }

        boolean isWord(String word) {
            if (token != WORD || at - start != word.length()) {
                return false;
            }
            for (int i = 0; i < word.length(); i++) {
                if (bytes[start + i] != word.charAt(i)) {
                    return false;
                }
            }
            return true;
        }

        private static boolean isBlank(char c) {
            return c == 10 || c == 32;
        }

        private static boolean isLetter(char c) {
            return c >= 'a' && c <= 'z';
        }

        private static boolean isDigit(char c) {
            return c >= '0' && c <= '9';
        }
    }

    /** Reads a text along its tokens up to the first fault. */
    private static final class Reader {
        private static final int NOT_HERE = 1;
        private static final int TOO_MUCH = 2;
        private static final int TOLD_ALREADY = 3;

        final Row row = new Row();
        int block = USUAL_BLOCK;
        int ties = TIES_FIRST;
        int lines = 0;
        int fault = 0;
        int faultPlace = NONE;
        boolean blockTold = false;
        boolean tiesTold = false;

        boolean read(Tape tape, int n) {
            row.size = 0;
            block = USUAL_BLOCK;
            ties = TIES_FIRST;
            lines = 0;
            fault = 0;
            faultPlace = NONE;
            blockTold = false;
            tiesTold = false;
            tape.begin(n);
            for (int i = 0; i <= n && tape.token != Tape.END; i++) {
                if (!readLine(tape) || !readEnd(tape)) {
                    return false;
                }
                lines++;
            }
            return true;
        }

        private boolean readLine(Tape tape) {
            if (tape.isWord("row")) {
                return readRow(tape);
            }
            if (tape.isWord("weight")) {
                return readWeight(tape);
            }
            if (tape.isWord("block")) {
                return readBlock(tape);
            }
            if (tape.isWord("ties")) {
                return readTies(tape);
            }
            return refuse(tape, NOT_HERE);
        }

        private boolean readEnd(Tape tape) {
            if (tape.token != Tape.SEMICOLON) {
                return refuse(tape, NOT_HERE);
            }
            tape.advance();
            return true;
        }

        private boolean readRow(Tape tape) {
            tape.advance();
            if (tape.token != Tape.NUMBER) {
                return refuse(tape, NOT_HERE);
            }
            for (int i = 0; i <= MOST_PLACES && tape.token == Tape.NUMBER; i++) {
                if (!isValue(tape.number) || row.size >= MOST_PLACES) {
                    return refuse(tape, TOO_MUCH);
                }
                row.open(row.size, tape.number);
                tape.advance();
            }
            return true;
        }

        private boolean readWeight(Tape tape) {
            tape.advance();
            if (tape.token != Tape.NUMBER || !row.has(tape.number)) {
                return refuse(tape, NOT_HERE);
            }
            int p = tape.number;
            tape.advance();
            if (!isNumber(tape, 1, MOST_WEIGHT)) {
                return false;
            }
            row.weights[p] = tape.number;
            tape.advance();
            return true;
        }

        private boolean readBlock(Tape tape) {
            if (blockTold) {
                return refuse(tape, TOLD_ALREADY);
            }
            blockTold = true;
            tape.advance();
            if (!isNumber(tape, LEAST_BLOCK, MOST_BLOCK)) {
                return false;
            }
            block = tape.number;
            tape.advance();
            return true;
        }

        private boolean readTies(Tape tape) {
            if (tiesTold) {
                return refuse(tape, TOLD_ALREADY);
            }
            tiesTold = true;
            tape.advance();
            ties = tiesNamed(tape);
            if (ties == NONE) {
                return refuse(tape, NOT_HERE);
            }
            tape.advance();
            return true;
        }

        private static int tiesNamed(Tape tape) {
            if (tape.isWord("first")) {
                return TIES_FIRST;
            }
            if (tape.isWord("last")) {
                return TIES_LAST;
            }
            if (tape.isWord("least")) {
                return TIES_LEAST;
            }
            return tape.isWord("most") ? TIES_MOST : NONE;
        }

        private boolean isNumber(Tape tape, int least, int most) {
            if (tape.token != Tape.NUMBER) {
                return refuse(tape, NOT_HERE);
            }
            if (tape.number < least || tape.number > most) {
                return refuse(tape, TOO_MUCH);
            }
            return true;
        }

        private boolean refuse(Tape tape, int why) {
            fault = why;
            faultPlace = tape.start;
            return false;
        }
    }
}
