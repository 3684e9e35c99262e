import java.util.ArrayDeque;
import java.util.ArrayList;
import java.util.Collections;
import java.util.Comparator;
import java.util.LinkedHashSet;
import java.util.List;
import java.util.NoSuchElementException;
import java.util.TreeSet;
import java.util.function.IntPredicate;
import java.util.regex.Matcher;
import java.util.regex.Pattern;

/**
 * The document once more, word by word and as slowly as it likes: what ModeDesk is measured against.
 * It shares no way of working with ModeDesk: spans are lists, each answer is sought anew.
 */
final class PlainDesk {
    record Cell(int value, int weight) {
    }

    private static final Pattern TOKEN = Pattern.compile("[a-z]+|[0-9]+|[^ \n]", Pattern.DOTALL);

    private StringBuilder tape = new StringBuilder();
    private List<Cell> cells = new ArrayList<>();
    private final ArrayDeque<List<Cell>> past = new ArrayDeque<>();
    private int block = 8;
    private int ties = 0;
    private int lines = 0;
    private int refreshed = -2;
    private int fault = 0;
    private int faultPlace = -1;

    // ---- text ----

    int feed(int... numbers) {
        if (tape.length() + 20 > 900) {
            return -1;
        }
        for (int n : numbers) {
            tape.append((char) (n >>> 24)).append((char) (n >> 16 & 255)).append((char) (n >> 8 & 255)).append((char) (n & 255));
        }
        return tape.length();
    }

    private static final class Fault extends Exception {
        private static final long serialVersionUID = 1;
        final int number;
        final int place;

        Fault(int number, int place) {
            this.number = number;
            this.place = place;
        }
    }

    int text(int n) {
        if (n < 0 || n > tape.length()) {
            return -2;
        }
        String text = tape.substring(0, n);
        tape = new StringBuilder();
        List<String> words = new ArrayList<>();
        List<Integer> places = new ArrayList<>();
        Matcher m = TOKEN.matcher(text);
        while (m.find()) {
            words.add(m.group());
            places.add(m.start());
        }
        words.add("");
        places.add(n);
        try {
            understand(words, places);
        } catch (Fault f) {
            fault = f.number;
            faultPlace = f.place;
            return -1;
        }
        fault = 0;
        faultPlace = -1;
        return lines;
    }

    private void understand(List<String> words, List<Integer> places) throws Fault {
        List<Cell> told = new ArrayList<>();
        int toldBlock = -1;
        int toldTies = -1;
        int toldLines = 0;
        int i = 0;
        while (!words.get(i).isEmpty()) {
            String line = words.get(i);
            switch (line) {
                case "row" -> {
                    i++;
                    demand(isNumber(words.get(i)), 1, places.get(i));
                    while (isNumber(words.get(i))) {
                        demand(told.size() < 120 && number(words.get(i)) <= 999, 2, places.get(i));
                        told.add(new Cell(number(words.get(i)), 1));
                        i++;
                    }
                }
                case "weight" -> {
                    demand(isNumber(words.get(i + 1)) && number(words.get(i + 1)) < told.size(), 1, places.get(i + 1));
                    demand(isNumber(words.get(i + 2)), 1, places.get(i + 2));
                    int w = number(words.get(i + 2));
                    demand(w >= 1 && w <= 9, 2, places.get(i + 2));
                    int p = number(words.get(i + 1));
                    told.set(p, new Cell(told.get(p).value(), w));
                    i += 3;
                }
                case "block" -> {
                    demand(toldBlock == -1, 3, places.get(i));
                    demand(isNumber(words.get(i + 1)), 1, places.get(i + 1));
                    toldBlock = number(words.get(i + 1));
                    demand(toldBlock >= 2 && toldBlock <= 20, 2, places.get(i + 1));
                    i += 2;
                }
                case "ties" -> {
                    demand(toldTies == -1, 3, places.get(i));
                    toldTies = List.of("first", "last", "least", "most").indexOf(words.get(i + 1));
                    demand(toldTies != -1, 1, places.get(i + 1));
                    i += 2;
                }
                default -> demand(false, 1, places.get(i));
            }
            demand(words.get(i).equals(";"), 1, places.get(i));
            i++;
            toldLines++;
        }
        cells = told;
        block = toldBlock == -1 ? 8 : toldBlock;
        ties = toldTies == -1 ? 0 : toldTies;
        lines = toldLines;
        past.clear();
        refreshed = -2;
    }

    private static void demand(boolean good, int number, int place) throws Fault {
        if (!good) {
            throw new Fault(number, place);
        }
    }

    private static boolean isNumber(String word) {
        return word.matches("[0-9]+");
    }

    private static int number(String word) {
        return new java.math.BigInteger(word).min(java.math.BigInteger.valueOf(5000)).intValue();
    }

    int fault(int what) {
        return what == 0 ? fault : what == 1 ? faultPlace : -1;
    }

    // ---- ranking ----

    private int n() {
        return cells.size();
    }

    private boolean place(int p) {
        return 0 <= p && p < n();
    }

    private boolean span(int l, int r) {
        return 0 <= l && l <= r && r < n();
    }

    private static boolean value(int v) {
        return 0 <= v && v <= 999;
    }

    private static boolean what(int what, int most) {
        return 0 <= what && what <= most;
    }

    private List<Integer> values(List<Cell> of) {
        List<Integer> all = new ArrayList<>();
        for (Cell c : of) {
            all.add(c.value());
        }
        return all;
    }

    private List<Integer> values(int l, int r) {
        return values(cells.subList(l, r + 1));
    }

    private static int often(List<Integer> of, int v) {
        return Collections.frequency(of, v);
    }

    private static List<Integer> ranking(List<Integer> of, int ties) {
        List<Integer> kinds = new ArrayList<>(new LinkedHashSet<>(of));
        Comparator<Integer> like = switch (ties) {
            case 0 -> Comparator.comparing(of::indexOf);
            case 1 -> Comparator.comparing((Integer v) -> -of.lastIndexOf(v));
            case 2 -> Comparator.naturalOrder();
            default -> Comparator.reverseOrder();
        };
        kinds.sort(Comparator.comparing((Integer v) -> -often(of, v)).thenComparing(like));
        return kinds;
    }

    private List<Integer> ranking(int l, int r) {
        return ranking(values(l, r), ties);
    }

    private int modeOf(int l, int r) {
        return ranking(l, r).get(0);
    }

    private int most(int l, int r) {
        return often(values(l, r), modeOf(l, r));
    }

    private int told(int l, int r, int v, int what) {
        List<Integer> of = values(l, r);
        return switch (what) {
            case 0 -> v;
            case 1 -> often(of, v);
            case 2 -> l + of.indexOf(v);
            default -> l + of.lastIndexOf(v);
        };
    }

    private List<Integer> placesOf(int v) {
        List<Integer> all = new ArrayList<>();
        for (int p = 0; p < n(); p++) {
            if (cells.get(p).value() == v) {
                all.add(p);
            }
        }
        return all;
    }

    // ---- place, edits ----

    int place(int p, int what) {
        if (!place(p)) {
            throw new IndexOutOfBoundsException();
        }
        int v = cells.get(p).value();
        List<Integer> places = placesOf(v);
        int i = places.indexOf(p);
        return switch (what) {
            case 0 -> v;
            case 1 -> cells.get(p).weight();
            case 2 -> (p - p % block) / block;
            case 3 -> i;
            case 4 -> i + 1 < places.size() ? places.get(i + 1) : -2;
            case 5 -> i > 0 ? places.get(i - 1) : -2;
            default -> throw new NoSuchElementException();
        };
    }

    /** Takes the row as it is behind an edit, if anything is other. */
    private int become(List<Cell> behind) {
        if (behind.equals(cells)) {
            return 0;
        }
        past.push(cells);
        if (past.size() > 12) {
            past.removeLast();
        }
        return move(behind);
    }

    private int move(List<Cell> behind) {
        List<Cell> ahead = cells;
        cells = behind;
        int others = 0;
        for (int p = 0; p < n(); p++) {
            others += isNew(ahead, p) ? 1 : 0;
        }
        refreshed = 0;
        for (int i = 0; i < blocks(); i++) {
            for (int j = i; j < blocks(); j++) {
                refreshed += isPairNew(ahead, i, j) ? 1 : 0;
            }
        }
        return others;
    }

    private boolean isNew(List<Cell> ahead, int p) {
        return p >= ahead.size() || ahead.get(p).value() != cells.get(p).value();
    }

    private boolean isPairNew(List<Cell> ahead, int i, int j) {
        for (int p = i * block; p < (j + 1) * block && p < n(); p++) {
            if (isNew(ahead, p)) {
                return true;
            }
        }
        // Within places that there still are, a block loses places if one of its own is gone.
        for (int p = i * block; p < (j + 1) * block; p++) {
            if (p >= n() && p < ahead.size()) {
                return true;
            }
        }
        return false;
    }

    private int blocks() {
        int found = 0;
        while (found * block < n()) {
            found++;
        }
        return found;
    }

    int set(int p, int v) {
        return place(p) && value(v) ? edit(p, new Cell(v, cells.get(p).weight())).value() : -1;
    }

    int weigh(int p, int w) {
        return place(p) && w >= 1 && w <= 9 ? edit(p, new Cell(cells.get(p).value(), w)).weight() : -1;
    }

    private Cell edit(int p, Cell to) {
        List<Cell> behind = new ArrayList<>(cells);
        Cell was = behind.set(p, to);
        become(behind);
        return was;
    }

    int insert(int p, int v) {
        if (p < 0 || p > n() || !value(v) || n() == 120) {
            return -1;
        }
        List<Cell> behind = new ArrayList<>(cells);
        behind.add(p, new Cell(v, 1));
        become(behind);
        return n();
    }

    int remove(int p) {
        if (!place(p)) {
            return -1;
        }
        List<Cell> behind = new ArrayList<>(cells);
        Cell was = behind.remove(p);
        become(behind);
        return was.value();
    }

    int fill(int l, int r, int v) {
        if (!span(l, r) || !value(v)) {
            return -1;
        }
        List<Cell> behind = new ArrayList<>(cells);
        behind.subList(l, r + 1).replaceAll(c -> new Cell(v, c.weight()));
        return become(behind);
    }

    boolean swap(int p, int q) {
        if (!place(p) || !place(q) || p == q) {
            return false;
        }
        List<Cell> behind = new ArrayList<>(cells);
        Collections.swap(behind, p, q);
        become(behind);
        return true;
    }

    int flip(int l, int r) {
        if (!span(l, r)) {
            return -1;
        }
        List<Cell> behind = new ArrayList<>(cells);
        Collections.reverse(behind.subList(l, r + 1));
        return become(behind);
    }

    int shift(int l, int r, int k) {
        if (!span(l, r) || k < 0 || k > r - l + 1) {
            return -1;
        }
        List<Cell> behind = new ArrayList<>(cells);
        Collections.rotate(behind.subList(l, r + 1), k);
        return become(behind);
    }

    int replace(int v, int w) {
        if (!value(v) || !value(w)) {
            return -1;
        }
        List<Cell> behind = new ArrayList<>(cells);
        behind.replaceAll(c -> c.value() == v ? new Cell(w, c.weight()) : c);
        return become(behind);
    }

    int sort(int l, int r, boolean rising) {
        if (!span(l, r)) {
            return -1;
        }
        List<Cell> behind = new ArrayList<>(cells);
        Comparator<Cell> by = Comparator.comparing(Cell::value);
        behind.subList(l, r + 1).sort(rising ? by : by.reversed());
        return become(behind);
    }

    int refreshed() {
        return refreshed;
    }

    int undo() {
        if (past.isEmpty()) {
            return -1;
        }
        move(past.pop());
        return past.size();
    }

    private List<List<Cell>> rows() {
        List<List<Cell>> rows = new ArrayList<>(past);
        rows.add(0, cells);
        return rows;
    }

    int was(int k, int p) {
        if (k < 0 || k > past.size() || p < 0) {
            return -1;
        }
        List<Cell> then = rows().get(k);
        return p < then.size() ? then.get(p).value() : -2;
    }

    int since(int p) {
        if (!place(p)) {
            return -1;
        }
        for (int k = 0; k < past.size(); k++) {
            if (was(k + 1, p) != was(0, p)) {
                return k;
            }
        }
        return -2;
    }

    // ---- one span ----

    int mode(int l, int r, int what) {
        return ranked(l, r, 0, what);
    }

    int ranked(int l, int r, int k, int what) {
        if (!span(l, r) || k < 0 || !what(what, 3)) {
            return -1;
        }
        List<Integer> by = ranking(l, r);
        return k < by.size() ? told(l, r, by.get(k), what) : -2;
    }

    int rank(int l, int r, int v) {
        if (!span(l, r) || !value(v)) {
            return -1;
        }
        int i = ranking(l, r).indexOf(v);
        return i < 0 ? -2 : i;
    }

    int often(int l, int r, int v) {
        return span(l, r) && value(v) ? often(values(l, r), v) : -1;
    }

    int at(int v, int k) {
        if (!value(v) || k < 0) {
            return -1;
        }
        List<Integer> places = placesOf(v);
        return k < places.size() ? places.get(k) : -2;
    }

    int unlike(int l, int r) {
        return span(l, r) ? ranking(l, r).size() : -1;
    }

    int times(int l, int r, int n) {
        if (!span(l, r) || n < 1) {
            return -1;
        }
        List<Integer> of = values(l, r);
        return (int) new TreeSet<>(of).stream().filter(v -> often(of, v) == n).count();
    }

    private boolean isMajority(int l, int r, int v) {
        return often(values(l, r), v) * 2 > r - l + 1;
    }

    int majority(int l, int r) {
        if (!span(l, r)) {
            return -1;
        }
        for (int v : values(l, r)) {
            if (isMajority(l, r, v)) {
                return v;
            }
        }
        return -2;
    }

    int heaviest(int l, int r, int what) {
        if (!span(l, r) || !what(what, 1)) {
            return -1;
        }
        int chosen = -1;
        int most = 0;
        for (int v : ranking(l, r)) {
            int weight = cells.subList(l, r + 1).stream().filter(c -> c.value() == v).mapToInt(Cell::weight).sum();
            if (weight > most) {
                chosen = v;
                most = weight;
            }
        }
        return what == 0 ? chosen : most;
    }

    int pair(int i, int j, int what) {
        if (i < 0 || i > j || j >= blocks() || !what(what, 1)) {
            return -1;
        }
        return mode(i * block, Math.min(n(), j * block + block) - 1, what);
    }

    int candidate(int l, int r, int k) {
        if (!span(l, r) || k < -1) {
            return -1;
        }
        List<Integer> inside = new ArrayList<>();
        LinkedHashSet<Integer> chosen = new LinkedHashSet<>();
        for (int b = 0; b < blocks(); b++) {
            int first = b * block;
            int last = Math.min(n(), first + block) - 1;
            boolean whole = l <= first && last <= r;
            for (int p = Math.max(l, first); p <= Math.min(r, last); p++) {
                if (whole) {
                    inside.add(cells.get(p).value());
                } else {
                    chosen.add(cells.get(p).value());
                }
            }
        }
        if (!inside.isEmpty()) {
            chosen.add(ranking(inside, ties).get(0));
        }
        List<Integer> by = ranking(l, r);
        by.retainAll(chosen);
        return k == -1 ? by.size() : k < by.size() ? by.get(k) : -2;
    }

    int median(int l, int r) {
        if (!span(l, r)) {
            return -1;
        }
        List<Integer> of = values(l, r);
        Collections.sort(of);
        return of.get((of.size() - 1) / 2);
    }

    int twisted(int l, int r) {
        if (!span(l, r)) {
            return -1;
        }
        List<Integer> of = values(l, r);
        int found = 0;
        for (int q = 0; q < of.size(); q++) {
            for (int v : of.subList(0, q)) {
                found += v > of.get(q) ? 1 : 0;
            }
        }
        return found;
    }

    int run(int l, int r, int what) {
        if (!span(l, r) || !what(what, 2)) {
            return -1;
        }
        for (int w = r - l + 1; w > 0; w--) {
            for (int from = l; from + w - 1 <= r; from++) {
                if (ranking(from, from + w - 1).size() == 1) {
                    return what == 0 ? from : what == 1 ? from + w - 1 : cells.get(from).value();
                }
            }
        }
        throw new IllegalStateException();
    }

    int common(int l, int r, int m) {
        if (!span(l, r) || m < 0 || m >= n() || m + r - l >= n()) {
            return -1;
        }
        List<Integer> other = values(m, m + r - l);
        int found = 0;
        for (Integer v : values(l, r)) {
            found += other.remove(v) ? 1 : 0;
        }
        return found;
    }

    int lead(int l, int r) {
        if (!span(l, r)) {
            return -1;
        }
        return mode(l, r, 1) - Math.max(0, ranked(l, r, 1, 1));
    }

    int rarest(int l, int r, int what) {
        if (!span(l, r) || !what(what, 3)) {
            return -1;
        }
        return ranked(l, r, ranking(l, r).size() - 1, what);
    }

    int follow(int v, int p, boolean back) {
        if (!value(v) || !place(p)) {
            return -1;
        }
        int step = back ? -1 : 1;
        for (int q = p; place(q); q += step) {
            if (cells.get(q).value() == v) {
                return q;
            }
        }
        return -2;
    }

    int split(int l, int r, int what) {
        if (!span(l, r) || l == r || !what(what, 1)) {
            return -1;
        }
        int least = -1;
        int most = -1;
        for (int m = l; m < r; m++) {
            int both = most(l, m) + most(m + 1, r);
            if (both > most) {
                least = m;
                most = both;
            }
        }
        return what == 0 ? least : most;
    }

    int together(int l, int r, int m, int n, int what) {
        if (!span(l, r) || !span(m, n) || !what(what, 1)) {
            return -1;
        }
        LinkedHashSet<Integer> places = new LinkedHashSet<>();
        for (int p = l; p <= r; p++) {
            places.add(p);
        }
        for (int p = m; p <= n; p++) {
            places.add(p);
        }
        List<Integer> of = new ArrayList<>();
        for (int p : places) {
            of.add(cells.get(p).value());
        }
        int v = ranking(of, ties).get(0);
        return what == 0 ? v : often(of, v);
    }

    int agree(int l, int m, int r) {
        if (m < 0 || m >= n() || !span(l, m) || !span(m + 1, r)) {
            return -1;
        }
        return modeOf(l, m) == modeOf(m + 1, r) ? 1 : 0;
    }

    int peeled(int l, int r, int k) {
        if (!span(l, r) || k < 0) {
            return -1;
        }
        List<Integer> left = values(l, r);
        for (int i = 0; i < k; i++) {
            if (left.isEmpty()) {
                return -2;
            }
            int gone = ranking(left, ties).get(0);
            left.removeIf(v -> v == gone);
        }
        return left.size();
    }

    int needed(int l, int r, int v) {
        if (!span(l, r) || !value(v)) {
            return -1;
        }
        List<Integer> of = values(l, r);
        int turned = 0;
        while (!standsMost(of, v)) {
            // The dearest rival gives one place up.
            List<Integer> rivals = ranking(of, 0);
            rivals.remove((Integer) v);
            of.set(of.indexOf(rivals.get(0)), v);
            turned++;
        }
        return turned;
    }

    private static boolean standsMost(List<Integer> of, int v) {
        return of.stream().allMatch(u -> u == v || often(of, u) < often(of, v));
    }

    int ifSet(int p, int v, int l, int r) {
        if (!place(p) || !value(v) || !span(l, r)) {
            return -1;
        }
        List<Integer> all = values(0, n() - 1);
        all.set(p, v);
        return ranking(all.subList(l, r + 1), ties).get(0);
    }

    int ifOut(int p, int l, int r) {
        if (!span(l, r) || p < l || p > r) {
            return -1;
        }
        List<Integer> of = values(l, r);
        of.remove(p - l);
        return of.isEmpty() ? -2 : ranking(of, ties).get(0);
    }

    int ifTies(int by, int l, int r) {
        return what(by, 3) && span(l, r) ? ranking(values(l, r), by).get(0) : -1;
    }

    // ---- windows, all spans ----

    private List<Integer> modes(int w) {
        List<Integer> modes = new ArrayList<>();
        for (int l = 0; span(l, l + w - 1); l++) {
            modes.add(modeOf(l, l + w - 1));
        }
        return modes;
    }

    private static List<Integer> changes(List<Integer> modes) {
        List<Integer> at = new ArrayList<>();
        for (int i = 1; i < modes.size(); i++) {
            if (!modes.get(i).equals(modes.get(i - 1))) {
                at.add(i);
            }
        }
        return at;
    }

    int window(int w, int k) {
        if (w < 1 || w > n() || k < 0) {
            return -1;
        }
        List<Integer> modes = modes(w);
        return k < modes.size() ? modes.get(k) : -2;
    }

    int windows(int w, int what) {
        if (w < 1 || w > n() || !what(what, 2)) {
            return -1;
        }
        List<Integer> modes = modes(w);
        return switch (what) {
            case 0 -> changes(modes).size();
            case 1 -> new TreeSet<>(modes).size();
            default -> ranking(modes, 2).get(0);
        };
    }

    int beginnings(int what) {
        List<Integer> modes = new ArrayList<>();
        for (int r = 0; r < n(); r++) {
            modes.add(modeOf(0, r));
        }
        List<Integer> at = changes(modes);
        switch (what) {
            case 0:
                return at.size();
            case 1:
                return at.isEmpty() ? -2 : at.get(at.size() - 1);
            case 2:
                return new TreeSet<>(modes).size();
            case 3:
                int longest = -2;
                int length = 0;
                for (int r = 0; r < n(); r++) {
                    length = at.contains(r) ? 1 : length + 1;
                    longest = Math.max(longest, length - 1);
                }
                return longest;
            default:
                return -1;
        }
    }

    int spans(int v) {
        if (!value(v)) {
            return -1;
        }
        int found = 0;
        for (int w = 1; w <= n(); w++) {
            found += often(modes(w), v);
        }
        return found;
    }

    private interface SpanTest {
        boolean holds(int l, int r);
    }

    private int spanOf(boolean longest, SpanTest test, int what) {
        for (int i = 1; i <= n(); i++) {
            int w = longest ? n() + 1 - i : i;
            for (int l = 0; span(l, l + w - 1); l++) {
                if (test.holds(l, l + w - 1)) {
                    return what == 0 ? l : l + w - 1;
                }
            }
        }
        return -2;
    }

    int longest(int v, int what) {
        return value(v) && what(what, 1) ? spanOf(true, (l, r) -> modeOf(l, r) == v, what) : -1;
    }

    int reign(int v, int what) {
        return value(v) && what(what, 1) ? spanOf(true, (l, r) -> isMajority(l, r, v), what) : -1;
    }

    int tightest(int k, int what) {
        if (k < 1 || !what(what, 2)) {
            return -1;
        }
        int l = spanOf(false, (a, b) -> most(a, b) >= k, 0);
        if (what == 0 || l == -2) {
            return l;
        }
        int r = spanOf(false, (a, b) -> most(a, b) >= k, 1);
        return what == 1 ? r : modeOf(l, r);
    }

    int wide(int k) {
        if (k < 1) {
            return -1;
        }
        for (int w = 1; w <= n(); w++) {
            int width = w;
            IntPredicate good = l -> most(l, l + width - 1) >= k;
            if (java.util.stream.IntStream.rangeClosed(0, n() - w).allMatch(good)) {
                return w;
            }
        }
        return -2;
    }

    int gap(int v) {
        if (!value(v)) {
            return -1;
        }
        List<Integer> places = placesOf(v);
        int widest = -2;
        for (int i = 1; i < places.size(); i++) {
            widest = Math.max(widest, places.get(i) - places.get(i - 1));
        }
        return widest;
    }

    int part(int k) {
        if (k < -1) {
            return -1;
        }
        // From the front: the best cut of the places ahead of each one, as lists of beginnings.
        List<List<Integer>> best = new ArrayList<>();
        best.add(new ArrayList<>());
        for (int end = 1; end <= n(); end++) {
            List<Integer> chosen = null;
            for (int l = 0; l < end; l++) {
                if (majority(l, end - 1) >= 0) {
                    List<Integer> cut = new ArrayList<>(best.get(l));
                    cut.add(l);
                    chosen = chosen == null || isBetter(cut, chosen) ? cut : chosen;
                }
            }
            best.add(chosen);
        }
        List<Integer> cut = best.get(n());
        return k == -1 ? cut.size() : k < cut.size() ? cut.get(k) : -2;
    }

    private static boolean isBetter(List<Integer> cut, List<Integer> other) {
        if (cut.size() != other.size()) {
            return cut.size() < other.size();
        }
        for (int i = 0; i < cut.size(); i++) {
            if (!cut.get(i).equals(other.get(i))) {
                return cut.get(i) < other.get(i);
            }
        }
        return false;
    }

    int count(int what) {
        return switch (what) {
            case 0 -> n();
            case 1 -> block;
            case 2 -> blocks();
            case 3 -> ties;
            case 4 -> lines;
            case 5 -> new TreeSet<>(values(cells)).size();
            case 6 -> past.size();
            case 7 -> cells.stream().mapToInt(Cell::weight).sum();
            case 8 -> tape.length();
            default -> -1;
        };
    }
}
