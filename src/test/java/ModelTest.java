/** Long runs of calls, each answer measured against PlainDesk's. The same runs each time. */
public final class ModelTest {
    private static final int CALLS = 512;
    private static final int KINDS_OF_CALL = 54;
    private static final int MOST_BYTES_OF_A_TEXT = 700;
    // Its feeds, text() and fault() twice: no object is asked more than the document allows.
    private static final int MOST_CALLS_OF_A_TEXT = MOST_BYTES_OF_A_TEXT / 20 + 3;

    private final Check check = new Check();
    private long seed;
    private ModeDesk desk;
    private PlainDesk plain;
    private int kinds;
    private int most;
    private boolean dear;

    public static void main(String[] args) {
        int runs = Integer.getInteger("runs", 160);
        int from = Integer.getInteger("from", 0);
        ModelTest test = new ModelTest();
        for (int run = from; run < from + runs && test.check.allDue(); run++) {
            test.run(run);
        }
        test.check.end("ModelTest");
    }

    private int below(int bound) {
        seed = seed * 6364136223846793005L + 1442695040888963407L;
        return (int) ((seed >>> 33) % bound);
    }

    private int between(int least, int most) {
        return least + below(most - least + 1);
    }

    private void run(int number) {
        seed = number * 7919L + 17;
        below(2);
        desk = new ModeDesk();
        plain = new PlainDesk();
        kinds = new int[] {2, 3, 4, 6, 12, 1000}[below(6)];
        most = new int[] {4, 9, 16, 24, 120}[number % 5];
        // The slow answers of the plain desk are too slow for long rows.
        dear = most <= 24;
        for (int i = 0; i < CALLS; i++) {
            boolean tells = i == 1 || below(60) == 0;
            if (tells && i + MOST_CALLS_OF_A_TEXT <= CALLS) {
                i += tell(number) - 1;
            } else {
                String call = call();
                int split = call.indexOf('=');
                answer(number, i, call.substring(0, split), call.substring(split + 1));
            }
        }
    }

    private void answer(int run, int i, String call, String answers) {
        int slash = answers.indexOf('/');
        check.due("run " + run + ", call " + i + ": " + call, Long.parseLong(answers.substring(0, slash)), Long.parseLong(answers.substring(slash + 1)));
    }

    private int tell(int run) {
        String text = text();
        int fed = 0;
        for (int at = 0; at < text.length(); at += 20) {
            int[] f = Told.fours(text, at);
            check.due("run " + run + ": feed", desk.feed(f[0], f[1], f[2], f[3], f[4]), plain.feed(f[0], f[1], f[2], f[3], f[4]));
            fed++;
        }
        int n = below(12) == 0 ? between(-1, text.length() + 25) : text.length();
        check.due("run " + run + ": text(" + n + ") of <" + text + ">", desk.text(n), plain.text(n));
        check.due("run " + run + ": fault(0) of <" + text + ">", desk.fault(0), plain.fault(0));
        check.due("run " + run + ": fault(1) of <" + text + ">", desk.fault(1), plain.fault(1));
        return fed + 3;
    }

    private String text() {
        StringBuilder s = new StringBuilder();
        int told = 0;
        int lines = between(1, 6);
        for (int i = 0; i < lines; i++) {
            int kind = i == 0 ? 0 : below(8);
            if (kind <= 3) {
                int many = between(1, Math.max(1, Math.min(most - told, 60)));
                s.append("row");
                for (int k = 0; k < many; k++) {
                    s.append(blank()).append(below(kinds));
                }
                told += many;
            } else if (kind <= 5) {
                s.append("weight ").append(below(told + (below(9) == 0 ? 2 : 0))).append(blank()).append(between(1, 9));
            } else if (kind == 6) {
                s.append("block ").append(below(3) > 0 ? between(2, 4) : between(1, 21));
            } else {
                s.append("ties ").append(new String[] {"first", "last", "least", "most"}[below(4)]);
            }
            s.append(below(3) == 0 ? blank() : "").append(";").append(below(3) == 0 ? blank() : "");
        }
        for (int k = below(4) == 0 ? between(1, 3) : 0; k > 0; k--) {
            spoil(s);
        }
        s.setLength(Math.min(s.length(), MOST_BYTES_OF_A_TEXT));
        return s.toString();
    }

    private String blank() {
        return below(8) == 0 ? "\n " : " ";
    }

    private void spoil(StringBuilder s) {
        int at = below(s.length());
        String signs = "0159 ;\nabrtfx#Z\t\u0080\u00ff";
        char c = signs.charAt(below(signs.length()));
        switch (below(4)) {
            case 0 -> s.setCharAt(at, c);
            case 1 -> s.insert(at, c);
            case 2 -> s.insert(at, new String[] {"row", "weight", "block 3;", "ties last;", "1000 ", "00000000000000000007", "99999999999 "}[below(7)]);
            default -> s.deleteCharAt(at);
        }
        if (s.length() == 0) {
            s.append(';');
        }
    }

    private int place() {
        int n = plain.count(0);
        return below(14) == 0 ? odd() : n == 0 ? 0 : below(n);
    }

    private int odd() {
        int n = plain.count(0);
        return new int[] {-1, n, n + 1, -2, Integer.MAX_VALUE, Integer.MIN_VALUE, 120, 121, 0, n - 1}[below(10)];
    }

    private int value() {
        return below(16) == 0 ? new int[] {-1, 1000, 999, Integer.MIN_VALUE, Integer.MAX_VALUE}[below(5)] : below(Math.min(1000, kinds + 1));
    }

    private int what(int most) {
        return below(16) == 0 ? new int[] {-1, most + 1, Integer.MIN_VALUE, Integer.MAX_VALUE}[below(4)] : between(0, most);
    }

    private int few() {
        return below(16) == 0 ? new int[] {-1, -2, 0, 121, Integer.MIN_VALUE, Integer.MAX_VALUE}[below(6)] : between(0, 1 + plain.count(0) / 2);
    }

    private static String both(String call, int got, int want) {
        return call + "=" + got + "/" + want;
    }

    private String call() {
        int l = place();
        int r = place();
        if (l > r && below(10) > 0) {
            int other = l;
            l = r;
            r = other;
        }
        int kind = below(KINDS_OF_CALL);
        if (kind < 14) {
            return edit(kind, l, r);
        }
        return kind < 31 ? inSpan(kind, l, r) : kind < 45 ? more(kind, l, r) : ofAll(kind);
    }

    private String edit(int kind, int l, int r) {
        int v = value();
        int k = few();
        boolean b = below(2) == 0;
        switch (kind) {
            case 0:
                return both("set(" + l + ", " + v + ")", desk.set(l, v), plain.set(l, v));
            case 1:
                return both("weigh(" + l + ", " + k + ")", desk.weigh(l, k), plain.weigh(l, k));
            case 2:
            case 3:
                int p = b ? l : plain.count(0);
                if (plain.count(0) >= most + 4) {
                    return both("remove(" + p + ")", desk.remove(p), plain.remove(p));
                }
                return both("insert(" + p + ", " + v + ")", desk.insert(p, v), plain.insert(p, v));
            case 4:
                int q = b ? l : plain.count(0) - 1;
                return both("remove(" + q + ")", desk.remove(q), plain.remove(q));
            case 5:
                return both("fill(" + l + ", " + r + ", " + v + ")", desk.fill(l, r, v), plain.fill(l, r, v));
            case 6:
                return both("swap(" + l + ", " + r + ")", desk.swap(l, r) ? 1 : 0, plain.swap(l, r) ? 1 : 0);
            case 7:
                return both("flip(" + l + ", " + r + ")", desk.flip(l, r), plain.flip(l, r));
            case 8:
                return both("shift(" + l + ", " + r + ", " + k + ")", desk.shift(l, r, k), plain.shift(l, r, k));
            case 9:
                int w = value();
                return both("replace(" + v + ", " + w + ")", desk.replace(v, w), plain.replace(v, w));
            case 10:
                return both("sort(" + l + ", " + r + ", " + b + ")", desk.sort(l, r, b), plain.sort(l, r, b));
            case 11:
                return both("refreshed()", desk.refreshed(), plain.refreshed());
            case 12:
                return both("undo()", desk.undo(), plain.undo());
            default:
                int ago = below(9) == 0 ? few() : below(14);
                return both("was(" + ago + ", " + l + ")", desk.was(ago, l), plain.was(ago, l));
        }
    }

    private String inSpan(int kind, int l, int r) {
        int v = value();
        int k = few();
        int what = what(3);
        String span = "(" + l + ", " + r;
        switch (kind) {
            case 14:
                return both("mode" + span + ", " + what + ")", desk.mode(l, r, what), plain.mode(l, r, what));
            case 15:
                return both("ranked" + span + ", " + k + ", " + what + ")", desk.ranked(l, r, k, what), plain.ranked(l, r, k, what));
            case 16:
                return both("rank" + span + ", " + v + ")", desk.rank(l, r, v), plain.rank(l, r, v));
            case 17:
                return both("often" + span + ", " + v + ")", desk.often(l, r, v), plain.often(l, r, v));
            case 18:
                return both("at(" + v + ", " + k + ")", desk.at(v, k), plain.at(v, k));
            case 19:
                return both("unlike" + span + ")", desk.unlike(l, r), plain.unlike(l, r));
            case 20:
                return both("times" + span + ", " + k + ")", desk.times(l, r, k), plain.times(l, r, k));
            case 21:
                return both("majority" + span + ")", desk.majority(l, r), plain.majority(l, r));
            case 22:
                what = what(1);
                return both("heaviest" + span + ", " + what + ")", desk.heaviest(l, r, what), plain.heaviest(l, r, what));
            case 23:
                what = what(1);
                int i = few() / 2;
                int j = below(4) == 0 ? few() : i + below(3);
                return both("pair(" + i + ", " + j + ", " + what + ")", desk.pair(i, j, what), plain.pair(i, j, what));
            case 24:
            case 25:
                k = below(3) == 0 ? k : between(-1, 4);
                return both("candidate" + span + ", " + k + ")", desk.candidate(l, r, k), plain.candidate(l, r, k));
            case 26:
                return both("median" + span + ")", desk.median(l, r), plain.median(l, r));
            case 27:
                return both("twisted" + span + ")", desk.twisted(l, r), plain.twisted(l, r));
            case 28:
                what = what(2);
                return dear ? both("run" + span + ", " + what + ")", desk.run(l, r, what), plain.run(l, r, what)) : call();
            case 29:
                int m = below(3) == 0 ? place() : below(3);
                return both("common" + span + ", " + m + ")", desk.common(l, r, m), plain.common(l, r, m));
            default:
                return both("needed" + span + ", " + v + ")", desk.needed(l, r, v), plain.needed(l, r, v));
        }
    }

    private String more(int kind, int l, int r) {
        int v = value();
        int k = few();
        int p = place();
        int q = place();
        int what = what(1);
        String span = l + ", " + r;
        switch (kind) {
            case 31:
                return both("ifSet(" + p + ", " + v + ", " + span + ")", desk.ifSet(p, v, l, r), plain.ifSet(p, v, l, r));
            case 32:
                p = below(5) == 0 ? p : l;
                return both("ifOut(" + p + ", " + span + ")", desk.ifOut(p, l, r), plain.ifOut(p, l, r));
            case 33:
                p = below(3) == 0 ? p : r;
                return both("ifOut(" + p + ", " + span + ")", desk.ifOut(p, l, r), plain.ifOut(p, l, r));
            case 34:
                what = what(3);
                return both("ifTies(" + what + ", " + span + ")", desk.ifTies(what, l, r), plain.ifTies(what, l, r));
            case 35:
                return both("lead(" + span + ")", desk.lead(l, r), plain.lead(l, r));
            case 36:
                what = what(3);
                return both("rarest(" + span + ", " + what + ")", desk.rarest(l, r, what), plain.rarest(l, r, what));
            case 37:
                boolean back = below(2) == 0;
                return both("follow(" + v + ", " + p + ", " + back + ")", desk.follow(v, p, back), plain.follow(v, p, back));
            case 38:
                return both("split(" + span + ", " + what + ")", desk.split(l, r, what), plain.split(l, r, what));
            case 39:
                int m = Math.min(p, q);
                int n = below(9) == 0 ? p : Math.max(p, q);
                return both("together(" + span + ", " + m + ", " + n + ", " + what + ")", desk.together(l, r, m, n, what), plain.together(l, r, m, n, what));
            case 40:
                p = below(4) == 0 ? p : l + below(4);
                return both("agree(" + l + ", " + p + ", " + r + ")", desk.agree(l, p, r), plain.agree(l, p, r));
            case 41:
                k = below(3) == 0 ? k : below(6);
                return both("peeled(" + span + ", " + k + ")", desk.peeled(l, r, k), plain.peeled(l, r, k));
            case 42:
                return both("since(" + p + ")", desk.since(p), plain.since(p));
            case 43:
                return both("gap(" + v + ")", desk.gap(v), plain.gap(v));
            default:
                what = what(5);
                return both("place(" + p + ", " + what + ")", Told.place(desk, p, what), Told.place(plain, p, what));
        }
    }

    private String ofAll(int kind) {
        int v = value();
        int k = few();
        int what = what(1);
        if (!dear && kind > 46 && kind < 53 && below(40) > 0) {
            kind = 53;
        }
        switch (kind) {
            case 45:
                int w = below(3) == 0 ? few() : between(1, 4);
                return both("window(" + w + ", " + k + ")", desk.window(w, k), plain.window(w, k));
            case 46:
                int width = below(3) == 0 ? few() : between(1, 4);
                what = what(2);
                return both("windows(" + width + ", " + what + ")", desk.windows(width, what), plain.windows(width, what));
            case 47:
                return both("spans(" + v + ")", desk.spans(v), plain.spans(v));
            case 48:
                return both("longest(" + v + ", " + what + ")", desk.longest(v, what), plain.longest(v, what));
            case 49:
                what = what(2);
                return both("tightest(" + k + ", " + what + ")", desk.tightest(k, what), plain.tightest(k, what));
            case 50:
                return both("reign(" + v + ", " + what + ")", desk.reign(v, what), plain.reign(v, what));
            case 51:
                return both("wide(" + k + ")", desk.wide(k), plain.wide(k));
            case 52:
                k = below(3) == 0 ? NONE_OR_LESS[below(2)] : k;
                return both("part(" + k + ")", desk.part(k), plain.part(k));
            default:
                if (below(2) == 0) {
                    what = what(3);
                    return both("beginnings(" + what + ")", desk.beginnings(what), plain.beginnings(what));
                }
                what = what(8);
                return both("count(" + what + ")", desk.count(what), plain.count(what));
        }
    }

    private static final int[] NONE_OR_LESS = {-1, -2};
}
