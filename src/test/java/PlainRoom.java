import java.util.ArrayList;
import java.util.List;

/** The document once more, in the slowest and plainest form: what RandomRunsTest holds LostRoom against. */
final class PlainRoom {
    static final int BAD = -1, FULL = -2, FINDING = -3, STATE = -4, SPENT = -6, NONE = -9;

    int[][] rows = new int[6][];
    byte[][] texts = new byte[4][];
    List<int[]> lodgers = new ArrayList<>();
    List<int[]> trunks = new ArrayList<>();
    List<int[]> stands = new ArrayList<>();
    List<int[]> things = new ArrayList<>();
    List<int[]> lines = new ArrayList<>();
    List<int[]> bits = new ArrayList<>();
    List<int[]> claims = new ArrayList<>();
    int wear = 1;
    int asked;
    long many;
    int finding;
    int[] findings = new int[6];

    private int f(int which) {
        finding = which;
        findings[which]++;
        return FINDING;
    }

    private int tell(int v) {
        asked = v;
        return 1;
    }

    private static boolean in(int v, int low, int high) {
        return low <= v && v <= high;
    }

    int row(int r, int n) {
        if (!in(r, 0, 5) || n > 48) return BAD;
        if (n < 0) return f(5);
        rows[r] = new int[n];
        return n;
    }

    int lay(int r, int i, int v) {
        if (!in(r, 0, 5)) return BAD;
        if (rows[r] == null) return f(1);
        if (!in(i, 0, rows[r].length - 1)) return f(2);
        int was = rows[r][i];
        rows[r][i] = v;
        return tell(was);
    }

    int at(int r, int i) {
        if (!in(r, 0, 5)) return BAD;
        if (rows[r] == null) return f(1);
        if (!in(i, 0, rows[r].length - 1)) return f(2);
        return tell(rows[r][i]);
    }

    int tear(int r) {
        if (!in(r, 0, 5)) return BAD;
        if (rows[r] == null) return f(1);
        rows[r] = null;
        return 1;
    }

    int copy(int r, int i, int to, int j, int n) {
        if (!in(r, 0, 5) || !in(to, 0, 5)) return BAD;
        if (n < 0) return f(5);
        if (rows[r] == null || rows[to] == null) return f(1);
        if (i < 0 || j < 0) return f(2);
        if ((long) i + n > rows[r].length || (long) j + n > rows[to].length) return f(2);
        int[] taken = new int[n];
        for (int k = 0; k < n; k++) taken[k] = rows[r][i + k];
        for (int k = 0; k < n; k++) rows[to][j + k] = taken[k];
        return 1;
    }

    int mean(int r) {
        if (!in(r, 0, 5)) return BAD;
        if (rows[r] == null) return f(1);
        if (rows[r].length == 0) return f(4);
        java.math.BigInteger sum = java.math.BigInteger.ZERO;
        for (int v : rows[r]) sum = sum.add(java.math.BigInteger.valueOf(v));
        return tell(sum.divide(java.math.BigInteger.valueOf(rows[r].length)).intValueExact());
    }

    int text(int t, int n) {
        if (!in(t, 0, 3) || n > 120) return BAD;
        if (n < 0) return f(5);
        texts[t] = new byte[n];
        for (int i = 0; i < n; i++) texts[t][i] = 32;
        return n;
    }

    int put(int t, int i, int v) {
        if (!in(t, 0, 3)) return BAD;
        if (texts[t] == null) return f(1);
        if (!in(i, 0, texts[t].length - 1)) return f(2);
        int was = texts[t][i];
        texts[t][i] = (byte) v;
        return was + 1000;
    }

    /** Reads by the longest beginning of a pattern that still fits: another way than LostRoom's. */
    private int read(byte[] bytes, List<int[]> l, List<int[]> k, List<int[]> u) {
        int i = 0;
        while (i < bytes.length) {
            int letter = bytes[i];
            if (letter == 32) {
                i++;
                continue;
            }
            String pattern;
            if (letter == 'l' && l.size() < 8) pattern = "l0?-0?s1t1h1";
            else if (letter == 'k' && k.size() < 8) pattern = "k5555^0";
            else if (letter == 'u' && u.size() < 12) pattern = "uT/T";
            else return i;
            List<Integer> figures = new ArrayList<>();
            List<Boolean> two = new ArrayList<>();
            int p = 0;
            while (p < pattern.length()) {
                char want = pattern.charAt(p);
                int got = i < bytes.length ? bytes[i] : -1;
                int figure = got - '0';
                boolean isFigure = in(figure, 0, 9);
                if (want == '?') {
                    if (isFigure) {
                        int last = figures.size() - 1;
                        figures.set(last, figures.get(last) * 10 + figure);
                        i++;
                    }
                    // both years are told: the second may not be below the first
                    if (figures.size() == 2 && figures.get(1) < figures.get(0)) return i;
                    p++;
                    continue;
                }
                boolean fine;
                if (want == '0') fine = isFigure;
                else if (want == '1') fine = isFigure && figure >= 1;
                else if (want == '5') fine = in(figure, 1, 5);
                else if (want == 'T') fine = isFigure && figure < k.size() && (figures.isEmpty() || figures.get(0) != figure);
                else fine = got == want;
                if (!fine) return i;
                if (want == '0' || want == '1' || want == '5' || want == 'T') figures.add(figure);
                i++;
                p++;
            }
            int[] item = new int[figures.size()];
            for (int n = 0; n < item.length; n++) item[n] = figures.get(n);
            if (letter == 'l') l.add(item);
            if (letter == 'k') k.add(new int[] {item[0] * 1000 + item[1] * 100 + item[2] * 10 + item[3], item[4]});
            if (letter == 'u') u.add(item);
        }
        return NONE;
    }

    int fault(int t) {
        if (!in(t, 0, 3)) return BAD;
        if (texts[t] == null) return f(1);
        return read(texts[t], new ArrayList<>(), new ArrayList<>(), new ArrayList<>());
    }

    int book(int t) {
        int fault = fault(t);
        if (fault == BAD || fault == FINDING) return fault;
        if (fault != NONE) return STATE;
        lodgers.clear();
        trunks.clear();
        stands.clear();
        things.clear();
        lines.clear();
        bits.clear();
        claims.clear();
        read(texts[t], lodgers, trunks, stands);
        return trunks.size();
    }

    int wear(int w) {
        if (!in(w, 0, 4)) return BAD;
        int was = wear;
        wear = w;
        return was;
    }

    private boolean isLodger(int l) {
        return in(l, 0, lodgers.size() - 1);
    }

    private boolean isTrunk(int t) {
        return in(t, 0, trunks.size() - 1);
    }

    private boolean isThing(int i) {
        return in(i, 0, things.size() - 1);
    }

    private int standsOn(int t) {
        int set = 0;
        for (int[] u : stands) if (u[0] == t) set |= 1 << u[1];
        return set;
    }

    private int inTrunk(int t) {
        int all = 0;
        for (int[] one : things) if (one[5] == t) all++;
        return all;
    }

    private int trunkTells(int t, int what) {
        if (what < 2) return trunks.get(t)[what];
        return what == 2 ? standsOn(t) : inTrunk(t);
    }

    private int thingTells(int i, int what) {
        int[] one = things.get(i);
        return what < 3 ? one[what] : one[what + 2];
    }

    int lodger(int l, int what) {
        if (!isLodger(l) || !in(what, 0, 4)) return BAD;
        return tell(lodgers.get(l)[what]);
    }

    int trunk(int t, int what) {
        if (!isTrunk(t) || !in(what, 0, 3)) return BAD;
        return tell(trunkTells(t, what));
    }

    private static boolean key(int x) {
        return Integer.toString(x).matches("[1-5]{4}");
    }

    /** A THING: kind, a, b, x, y, trunk, wet. */
    int thing(int kind, int a, int b, int x, int y) {
        if (!in(kind, 1, 5) || !in(a, 0, 99) || !in(b, 0, 99) || a > b) return BAD;
        boolean fine = false;
        if (kind == 1) fine = in(x, 1, 9);
        if (kind == 2) fine = in(x, 0, 9) && in(y, 1, 9);
        if (kind == 3) fine = in(x, 0, 99) && in(x % 10, 1, 9) && isLodger(y);
        if (kind == 4) fine = in(x, 1, 9) && in(y, 1, 9) && x != y;
        if (kind == 5) fine = key(x);
        if (!fine) return BAD;
        if (things.size() == 20) return FULL;
        things.add(new int[] {kind, a, b, x, y, NONE, 0});
        return things.size() - 1;
    }

    int lies(int i, int t, boolean wet) {
        if (!isThing(i) || !isTrunk(t) && t != NONE) return BAD;
        things.get(i)[5] = t;
        things.get(i)[6] = wet ? 1 : 0;
        return 1;
    }

    int told(int i, int what) {
        if (!isThing(i) || !in(what, 0, 4)) return BAD;
        return tell(thingTells(i, what));
    }

    private boolean is(int i, int kind) {
        int own = things.get(i)[0];
        return own == kind || own == 3 && kind == 2;
    }

    private int markOf(int i, int kind) {
        int[] one = things.get(i);
        if (kind == 2 && one[0] == 2 || kind == 4) return 10 * one[3] + one[4];
        return kind == 3 ? one[4] : one[3];
    }

    int mark(int i, int kind) {
        if (!isThing(i) || !in(kind, 1, 5)) return BAD;
        return is(i, kind) ? markOf(i, kind) : f(3);
    }

    private boolean mayOwn(int l, int i) {
        int[] who = lodgers.get(l);
        int[] one = things.get(i);
        boolean meet = false;
        for (int year = 0; year <= 99; year++) meet |= in(year, who[0], who[1]) && in(year, one[1], one[2]);
        if (!meet) return false;
        if (one[0] == 1) return Math.abs(one[3] - who[2]) <= 1;
        if (one[0] == 4) return one[3] == who[3] || one[4] == who[3];
        if (one[0] == 5) return true;
        if (one[0] == 3 && one[4] != l) return false;
        int town = one[0] == 2 ? one[3] : one[3] / 10;
        int hand = one[0] == 2 ? one[4] : one[3] % 10;
        return (town == 0 || town == who[3]) && hand != who[4];
    }

    private int owners(int i) {
        int set = 0;
        for (int l = 0; l < lodgers.size(); l++) if (mayOwn(l, i)) set |= 1 << l;
        return set;
    }

    int may(int i) {
        return isThing(i) ? owners(i) : BAD;
    }

    private boolean owned(int set) {
        for (int i = 0; i < things.size(); i++) if ((owners(i) & set) == 0) return false;
        return true;
    }

    int fewest() {
        for (int n = 0; n <= lodgers.size(); n++) {
            for (int set = 0; set < 1 << lodgers.size(); set++) {
                if (Integer.bitCount(set) != n || !owned(set)) continue;
                asked = set;
                return n;
            }
        }
        return f(4);
    }

    int fits() {
        many = 1;
        for (int i = 0; i < things.size(); i++) many *= Integer.bitCount(owners(i));
        return many > 0 ? 1 : 0;
    }

    private boolean opensLock(int i, int t) {
        String a = Integer.toString(things.get(i)[3]);
        String b = Integer.toString(trunks.get(t)[0]);
        int sum = 0;
        for (int k = 0; k < 4; k++) {
            int off = Math.abs(a.charAt(k) - b.charAt(k));
            if (off > 1) return false;
            sum += off;
        }
        return sum <= wear;
    }

    int opens(int i) {
        if (!isThing(i)) return BAD;
        if (!is(i, 5)) return f(3);
        int set = 0;
        for (int t = 0; t < trunks.size(); t++) if (opensLock(i, t)) set |= 1 << t;
        return set;
    }

    int strange() {
        int all = 0;
        int first = NONE;
        for (int i = things.size() - 1; i >= 0; i--) {
            int lies = things.get(i)[5];
            if (!is(i, 5) || lies == NONE || opensLock(i, lies)) continue;
            boolean other = false;
            for (int t = 0; t < trunks.size(); t++) other |= opensLock(i, t);
            if (!other) continue;
            all++;
            first = i;
        }
        asked = first;
        return all;
    }

    int water() {
        int low = NONE;
        int high = NONE;
        for (int h = 0; h <= 10; h++) {
            boolean fine = true;
            for (int[] one : things) {
                if (one[5] == NONE) continue;
                int height = trunks.get(one[5])[1];
                fine &= one[6] == 1 ? height < h : height >= h;
            }
            if (!fine) continue;
            if (low == NONE) low = h;
            high = h;
        }
        if (low == NONE) return NONE;
        asked = high;
        return low;
    }

    /** All rows of size places of numbers below n, no two the same, first ones first. */
    private static void rowsOf(int n, int size, List<Integer> begun, List<int[]> all) {
        if (begun.size() == size) {
            int[] one = new int[size];
            for (int i = 0; i < size; i++) one[i] = begun.get(i);
            all.add(one);
            return;
        }
        for (int i = 0; i < n; i++) {
            if (begun.contains(i)) continue;
            begun.add(i);
            rowsOf(n, size, begun, all);
            begun.remove(begun.size() - 1);
        }
    }

    private static List<int[]> rowsOf(int n, int size) {
        List<int[]> all = new ArrayList<>();
        rowsOf(n, size, new ArrayList<>(), all);
        return all;
    }

    private static int place(int[] row, int v) {
        for (int i = 0; i < row.length; i++) if (row[i] == v) return i;
        return NONE;
    }

    int piling(int r) {
        if (!in(r, 0, 5)) return BAD;
        int all = 0;
        int[] first = null;
        for (int[] order : rowsOf(trunks.size(), trunks.size())) {
            boolean fine = true;
            for (int[] u : stands) fine &= place(order, u[0]) < place(order, u[1]);
            if (!fine) continue;
            if (first == null) first = order;
            all++;
        }
        if (all == 0) return NONE;
        rows[r] = first;
        return all;
    }

    private boolean isSharing(int[] given) {
        int used = 0;
        for (int l : given) {
            if (!isLodger(l) || (used >> l & 1) == 1) return false;
            used |= 1 << l;
        }
        for (int[] u : stands) if (lodgers.get(given[u[1]])[1] < lodgers.get(given[u[0]])[1]) return false;
        return owned(used);
    }

    private boolean isMoved(int i, int[] given) {
        int t = things.get(i)[5];
        return t != NONE && !mayOwn(given[t], i);
    }

    private int moved(int[] given) {
        int all = 0;
        for (int i = 0; i < things.size(); i++) if (isMoved(i, given)) all++;
        return all;
    }

    private List<int[]> sharings(int m) {
        List<int[]> all = new ArrayList<>();
        for (int[] given : rowsOf(lodgers.size(), trunks.size())) if (isSharing(given) && moved(given) <= m) all.add(given);
        return all;
    }

    int share(int r) {
        if (!in(r, 0, 5)) return BAD;
        for (int m = 0; m <= 20; m++) {
            List<int[]> all = sharings(m);
            if (all.isEmpty()) continue;
            rows[r] = all.get(0);
            return m;
        }
        return NONE;
    }

    int ways(int m) {
        return in(m, 0, 20) ? sharings(m).size() : BAD;
    }

    int whose(int t, int m) {
        if (!isTrunk(t) || !in(m, 0, 20)) return BAD;
        int set = 0;
        for (int[] given : sharings(m)) set |= 1 << given[t];
        return set;
    }

    int sure(int m) {
        if (!in(m, 0, 20)) return BAD;
        List<int[]> all = sharings(m);
        if (all.isEmpty()) return NONE;
        int always = -1;
        int ever = 0;
        for (int[] given : all) {
            int set = 0;
            for (int l : given) set |= 1 << l;
            always &= set;
            ever |= set;
        }
        asked = ever;
        return always;
    }

    int next(int m) {
        if (!in(m, 0, 20)) return BAD;
        List<int[]> all = sharings(m);
        int best = NONE;
        int least = Integer.MAX_VALUE;
        for (int t = 0; t < trunks.size(); t++) {
            int[] often = new int[lodgers.size()];
            int most = 0;
            for (int[] given : all) most = Math.max(most, ++often[given[t]]);
            if (most == 0 || most >= least) continue;
            least = most;
            best = t;
        }
        if (best != NONE) asked = least;
        return best;
    }

    int moves(int r, int to) {
        if (!in(r, 0, 5) || !in(to, 0, 5)) return BAD;
        if (rows[r] == null) return f(1);
        if (rows[r].length != trunks.size()) return f(5);
        int[] given = rows[r];
        if (!isSharing(given)) return f(3);
        List<Integer> pairs = new ArrayList<>();
        for (int i = 0; i < things.size(); i++) {
            if (!isMoved(i, given)) continue;
            pairs.add(i);
            int t = 0;
            while (!mayOwn(given[t], i)) t++;
            pairs.add(t);
        }
        rows[to] = new int[pairs.size()];
        for (int i = 0; i < pairs.size(); i++) rows[to][i] = pairs.get(i);
        return pairs.size() / 2;
    }

    int line(int n, int a, int b) {
        if (!in(n, 0, 20) || !in(a, 0, 99) || !in(b, 0, 99) || a > b) return BAD;
        if (lines.size() == 8) return FULL;
        lines.add(new int[] {n, a, b});
        return lines.size() - 1;
    }

    private boolean fitsTrunk(int[] line, int t) {
        if (inTrunk(t) != line[0]) return false;
        for (int[] one : things) if (one[5] == t && (one[2] < line[1] || one[1] > line[2])) return false;
        return true;
    }

    private List<int[]> readingsOf() {
        List<int[]> all = new ArrayList<>();
        if (lines.size() > trunks.size()) return all;
        for (int[] given : rowsOf(trunks.size(), lines.size())) {
            boolean fine = true;
            for (int l = 0; l < given.length; l++) fine &= fitsTrunk(lines.get(l), given[l]);
            if (fine) all.add(given);
        }
        return all;
    }

    int readings() {
        return readingsOf().size();
    }

    int lineOf(int l) {
        if (!in(l, 0, lines.size() - 1)) return BAD;
        int set = 0;
        for (int[] given : readingsOf()) set |= 1 << given[l];
        return set;
    }

    int bit(int hand, int fold, int left, int right) {
        if (!in(hand, 1, 9) || !in(fold, 0, 9) || !in(left, 0, 999) || !in(right, 0, 999)) return BAD;
        if (bits.size() == 10) return FULL;
        bits.add(new int[] {hand, fold, left, right});
        return bits.size() - 1;
    }

    private boolean joined(int i, int j) {
        int[] a = bits.get(i);
        int[] b = bits.get(j);
        return a[0] == b[0] && a[1] == b[1] && a[3] + b[2] == 1000;
    }

    int joins(int i, int j) {
        if (!in(i, 0, bits.size() - 1) || !in(j, 0, bits.size() - 1) || i == j) return BAD;
        return joined(i, j) ? 1 : 0;
    }

    private int sheetsOf(int[] row) {
        int all = 0;
        for (int i = 0; i < row.length; i++) if (i == 0 || !joined(row[i - 1], row[i])) all++;
        return all;
    }

    int sheets(int r) {
        if (!in(r, 0, 5)) return BAD;
        int best = 99;
        for (int[] row : rowsOf(bits.size(), bits.size())) {
            if (sheetsOf(row) >= best) continue;
            best = sheetsOf(row);
            rows[r] = row;
        }
        return best;
    }

    int laid() {
        int best = 99;
        int all = 0;
        for (int[] row : rowsOf(bits.size(), bits.size())) {
            int n = sheetsOf(row);
            if (n < best) all = 0;
            best = Math.min(best, n);
            if (n == best) all++;
        }
        return all;
    }

    private List<Integer> tickets(int set) {
        List<Integer> all = new ArrayList<>();
        for (int i = 0; i < things.size(); i++) if ((set >> i & 1) == 1 && is(i, 4)) all.add(i);
        return all;
    }

    /** Whether some row of the tickets is a journey, by telling each the earliest year that it can have. */
    private boolean oneJourney(List<Integer> tickets) {
        for (int[] row : rowsOf(tickets.size(), tickets.size())) {
            int year = 0;
            boolean fine = true;
            for (int k = 0; k < row.length; k++) {
                int[] one = things.get(tickets.get(row[k]));
                if (k > 0) fine &= things.get(tickets.get(row[k - 1]))[4] == one[3];
                year = Math.max(year, one[1]);
                fine &= year <= one[2];
            }
            if (fine) return true;
        }
        return false;
    }

    private int people(List<Integer> tickets, int at, List<List<Integer>> groups) {
        if (at == tickets.size()) {
            for (List<Integer> group : groups) if (!oneJourney(group)) return 99;
            return groups.size();
        }
        int best = 99;
        for (int g = 0; g <= groups.size(); g++) {
            boolean fresh = g == groups.size();
            if (fresh) groups.add(new ArrayList<>());
            groups.get(g).add(tickets.get(at));
            best = Math.min(best, people(tickets, at + 1, groups));
            groups.get(g).remove(groups.get(g).size() - 1);
            if (fresh) {
                groups.remove(g);
                break;
            }
        }
        return best;
    }

    int travellers() {
        List<Integer> all = tickets(-1);
        if (all.size() > 10) return SPENT;
        return people(all, 0, new ArrayList<>());
    }

    int journey(int set) {
        if (!in(set, 0, (1 << things.size()) - 1)) return BAD;
        List<Integer> all = tickets(set);
        if (all.size() > 10) return SPENT;
        return oneJourney(all) ? 1 : 0;
    }

    int claim(int heir, int t, int r) {
        if (!in(heir, 0, 9) || !isTrunk(t) || !in(r, 0, 5)) return BAD;
        if (rows[r] == null) return f(1);
        if (rows[r].length == 0 || rows[r].length % 2 == 1) return f(5);
        if (claims.size() == 8) return FULL;
        for (int i = 0; i < rows[r].length; i += 2) if (!in(rows[r][i], 1, 5)) return f(3);
        int[] one = new int[2 + rows[r].length];
        one[0] = heir;
        one[1] = t;
        for (int i = 0; i < rows[r].length; i++) one[2 + i] = rows[r][i];
        claims.add(one);
        return claims.size() - 1;
    }

    private int right(int[] claim) {
        int all = 0;
        for (int k = 2; k < claim.length; k += 2) {
            boolean is = false;
            for (int i = 0; i < things.size(); i++) {
                if (things.get(i)[5] == claim[1] && is(i, claim[k])) is |= markOf(i, claim[k]) == claim[k + 1];
            }
            if (is) all++;
        }
        return all;
    }

    int judge(int c) {
        if (!in(c, 0, claims.size() - 1)) return BAD;
        asked = (claims.get(c).length - 2) / 2;
        return right(claims.get(c));
    }

    int heir(int t, int n) {
        if (!isTrunk(t) || !in(n, 1, 24)) return BAD;
        int best = 0;
        for (int[] one : claims) if (one[1] == t) best = Math.max(best, right(one));
        if (best < n) return NONE;
        int who = NONE;
        for (int[] one : claims) {
            if (one[1] != t || right(one) != best) continue;
            if (who != NONE && who != one[0]) return NONE;
            who = one[0];
        }
        asked = best;
        return who;
    }

    int count(int what) {
        int there = 0;
        switch (what) {
            case 0: return lodgers.size();
            case 1: return trunks.size();
            case 2: return things.size();
            case 3:
                for (int i = 0; i < things.size(); i++) if (is(i, 2)) there++;
                return there;
            case 4: return lines.size();
            case 5: return bits.size();
            case 6: return claims.size();
            case 7:
                for (int[] row : rows) if (row != null) there++;
                return there;
            case 8:
                for (byte[] text : texts) if (text != null) there++;
                return there;
            default: return BAD;
        }
    }

    int findings(int f) {
        return in(f, 1, 5) ? findings[f] : BAD;
    }

    long digest() {
        List<Integer> all = new ArrayList<>();
        for (int what = 0; what <= 8; what++) all.add(count(what));
        all.add(wear);
        for (int[] one : lodgers) for (int v : one) all.add(v);
        for (int t = 0; t < trunks.size(); t++) for (int what = 0; what < 4; what++) all.add(trunkTells(t, what));
        for (int i = 0; i < things.size(); i++) {
            for (int what = 0; what < 5; what++) all.add(thingTells(i, what));
            all.add(markOf(i, things.get(i)[0]));
        }
        for (int[] one : lines) for (int v : one) all.add(v);
        for (int[] one : bits) for (int v : one) all.add(v);
        for (int[] one : claims) {
            all.add(one[0]);
            all.add(one[1]);
            all.add((one.length - 2) / 2);
            for (int i = 2; i < one.length; i++) all.add(one[i]);
        }
        for (int[] row : rows) {
            all.add(row == null ? -1 : row.length);
            if (row != null) for (int v : row) all.add(v);
        }
        for (byte[] text : texts) {
            all.add(text == null ? -1 : text.length);
            if (text != null) for (byte v : text) all.add((int) v);
        }
        long h = 17;
        for (int v : all) h = 31 * h + v;
        return h;
    }
}
