/** Many runs of calls, drawn by a fixed rule, each answer held against PlainRoom's. */
public final class RandomRunsTest {
    private static final int[] FAR = {-1, -9, 10, 21, 49, 100, 1000, Integer.MAX_VALUE, Integer.MIN_VALUE};

    private long seed;
    private LostRoom x;
    private PlainRoom plain;
    private int mostBits;
    private int mostTickets;
    /** Whether lodgers live long and things are of long years, so that most things find an owner. */
    private boolean broad;

    private RandomRunsTest(long seed) {
        this.seed = seed * 7919 + 12345;
    }

    public static void main(String[] args) {
        int runs = args.length > 0 ? Integer.parseInt(args[0]) : 400;
        for (int run = 0; run < runs; run++) new RandomRunsTest(run).run();
        Check.end();
    }

    /** A number from 0 to below n. */
    private int any(int n) {
        seed = seed * 6364136223846793005L + 1442695040888963407L;
        return (int) ((seed >>> 33) % n);
    }

    private int from(int low, int high) {
        return low + any(high - low + 1);
    }

    /** Mostly a number from low to high, sometimes one just beside, seldom one far off. */
    private int near(int low, int high) {
        int kind = any(40);
        if (kind == 0) return low - 1;
        if (kind == 1) return high + 1;
        if (kind == 2) return FAR[any(FAR.length)];
        return high < low ? low : from(low, high);
    }

    private void run() {
        x = new LostRoom();
        plain = new PlainRoom();
        mostBits = any(10) == 0 ? 8 : 6;
        mostTickets = any(10) == 0 ? 7 : 5;
        broad = any(2) == 0;
        same("digest new", x.digest(), plain.digest());
        for (int part = 0; part < 3; part++) {
            bookOfItems();
            for (int i = broad ? any(10) : any(23); i > 0; i--) thing();
            for (int i = 0; i < plain.things.size(); i++) if (any(5) != 0) lies(i, any(plain.trunks.size() + 1) - 1);
            for (int i = any(5); i > 0; i--) likelyLine();
            for (int i = any(5); i > 0; i--) likelyClaim();
            for (int i = from(10, 90); i > 0; i--) call();
            same("digest", x.digest(), plain.digest());
        }
    }

    private void same(String call, long got, long want) {
        Check.due(call, got, want);
        Check.due(call + " then asked()", x.asked(), plain.asked);
        Check.due(call + " then many()", x.many(), plain.many);
        Check.due(call + " then finding()", x.finding(), plain.finding);
        for (int f = 0; f <= 6; f++) Check.due(call + " then findings " + f, x.findings(f), plain.findings(f));
    }

    private String year(int v) {
        return v < 10 && any(2) == 0 ? "0" + v : "" + v;
    }

    private String blanks() {
        return any(3) == 0 ? " ".repeat(from(1, 2)) : "";
    }

    private void bookOfItems() {
        StringBuilder told = new StringBuilder();
        int lodgers = any(7);
        int trunks = Math.max(0, lodgers - any(3));
        if (any(8) == 0) lodgers = any(9);
        if (any(8) == 0) trunks = any(9);
        for (int l = 0; l < lodgers; l++) {
            int a = any(broad ? 30 : 100);
            int b = broad ? from(60, 99) : Math.min(99, a + any(60));
            told.append(blanks()).append('l').append(year(a)).append('-').append(year(b));
            told.append('s').append(from(1, 4)).append('t').append(from(1, 4)).append('h').append(from(1, 5));
        }
        for (int t = 0; t < trunks; t++) {
            told.append(blanks()).append('k');
            for (int i = 0; i < 4; i++) told.append(from(1, any(4) == 0 ? 5 : 2));
            told.append('^').append(any(10));
        }
        for (int u = any(4) == 0 ? any(14) : any(3); u > 0 && trunks > 1; u--) {
            int i = any(trunks);
            int j = any(trunks);
            // most books pile upwards, so that not every pile goes round
            if (any(20) != 0) {
                int low = Math.min(i, j);
                j = Math.max(i, j);
                i = low;
            }
            if (i == j && any(30) != 0) continue;
            told.append(blanks()).append('u').append(i).append('/').append(j);
        }
        if (any(6) == 0 && told.length() > 0) told.setCharAt(any(told.length()), "lksthu-/^ 059x".charAt(any(14)));
        if (any(20) == 0) told.setLength(any(told.length() + 1));
        if (told.length() > 120) told.setLength(120);
        same("text", x.text(1, told.length()), plain.text(1, told.length()));
        for (int i = 0; i < told.length(); i++) same("put", x.put(1, i, told.charAt(i)), plain.put(1, i, told.charAt(i)));
        same("fault of " + told, x.fault(1), plain.fault(1));
        same("book of " + told, x.book(1), plain.book(1));
    }

    private int tickets() {
        int all = 0;
        for (int[] one : plain.things) if (one[0] == 4) all++;
        return all;
    }

    private void thing() {
        int kind = near(1, 5);
        if (kind == 4 && tickets() >= mostTickets) kind = 5;
        int a = near(0, broad ? 30 : 70);
        int b = Math.max(a, Math.min(99, a + any(80)));
        if (any(40) == 0) b = near(0, 99);
        int p = near(1, 4);
        int q = near(1, 4);
        if (kind == 2) p = near(0, 4);
        if (kind == 3) {
            p = near(0, 4) * 10 + near(1, 5);
            q = near(0, plain.lodgers.size() - 1);
        }
        if (kind == 5) p = from(1, 2) * 1000 + from(1, 2) * 100 + from(1, 3) * 10 + near(1, 3);
        same("thing", x.thing(kind, a, b, p, q), plain.thing(kind, a, b, p, q));
    }

    private void lies(int i, int t) {
        int trunk = t < 0 ? LostRoom.NONE : t;
        boolean wet = trunk >= 0 && trunk < plain.trunks.size() && any(8) != 0 ? plain.trunks.get(trunk)[1] < 5 : any(2) == 0;
        same("lies", x.lies(i, trunk, wet), plain.lies(i, trunk, wet));
    }

    private void line() {
        int n = near(0, any(3) == 0 ? 20 : 4);
        int a = near(0, 60);
        int b = near(30, 99);
        same("line", x.line(n, a, b), plain.line(n, a, b));
    }

    /** A LINE of as many THINGS as lie in some TRUNK. */
    private void likelyLine() {
        int n = 0;
        int t = any(plain.trunks.size() + 1);
        for (int[] one : plain.things) if (one[5] == t) n++;
        int a = any(30);
        int b = 70 + any(30);
        same("line", x.line(n, a, b), plain.line(n, a, b));
    }

    private void rowOf(int r, int... values) {
        same("row", x.row(r, values.length), plain.row(r, values.length));
        for (int i = 0; i < values.length; i++) same("lay", x.lay(r, i, values[i]), plain.lay(r, i, values[i]));
    }

    /** A CLAIM by marks most of which some THING tells. */
    private void likelyClaim() {
        int[] values = new int[2 * from(1, 4)];
        for (int i = 0; i < values.length; i += 2) {
            values[i] = near(1, 5);
            values[i + 1] = from(-9, 60);
            if (plain.things.isEmpty() || any(4) == 0) continue;
            int one = any(plain.things.size());
            int kind = plain.things.get(one)[0];
            values[i] = kind == 3 && any(2) == 0 ? 2 : kind;
            values[i + 1] = plain.mark(one, values[i]);
        }
        rowOf(any(6), values);
        int r = any(6);
        int heir = near(0, 3);
        int t = near(0, plain.trunks.size() - 1);
        same("claim", x.claim(heir, t, r), plain.claim(heir, t, r));
    }

    private void bit() {
        if (plain.bits.size() >= mostBits) return;
        int hand = near(1, 2);
        int fold = near(0, 1);
        int left = any(4) == 0 ? near(0, 999) : 500 + 100 * from(-1, 1);
        int right = any(4) == 0 ? near(0, 999) : 500 + 100 * from(-1, 1);
        same("bit", x.bit(hand, fold, left, right), plain.bit(hand, fold, left, right));
    }

    private void call() {
        int r = near(0, 5);
        int to = near(0, 5);
        int m = any(3) == 0 ? near(0, 20) : any(6);
        int t = near(0, plain.trunks.size() - 1);
        int i = near(0, plain.things.size() - 1);
        switch (any(52)) {
            case 0: { int n = near(0, 48); same("row", x.row(r, n), plain.row(r, n)); break; }
            case 1: { int p = near(0, 6); int v = any(3) == 0 ? FAR[any(FAR.length)] : from(-5, 9); same("lay", x.lay(r, p, v), plain.lay(r, p, v)); break; }
            case 2: { int p = near(0, 6); same("at", x.at(r, p), plain.at(r, p)); break; }
            case 3: if (any(3) == 0) same("tear", x.tear(r), plain.tear(r)); break;
            case 4: {
                int p = near(0, 4);
                int q = near(0, 4);
                int n = near(0, 4);
                same("copy", x.copy(r, p, to, q, n), plain.copy(r, p, to, q, n));
                break;
            }
            case 5: same("mean", x.mean(r), plain.mean(r)); break;
            case 6: { int p = near(2, 3); int n = near(0, 120); same("text", x.text(p, n), plain.text(p, n)); break; }
            case 7: { int p = near(0, 5); int v = any(2) == 0 ? from(-400, 400) : FAR[any(FAR.length)]; same("put", x.put(2, p, v), plain.put(2, p, v)); break; }
            case 8: { int p = near(0, 3); same("fault", x.fault(p), plain.fault(p)); break; }
            case 9: { int p = any(30) == 0 ? 1 : near(2, 4); if (any(20) == 0) same("book", x.book(p), plain.book(p)); break; }
            case 10: case 11: { int w = near(0, 4); same("wear", x.wear(w), plain.wear(w)); break; }
            case 12: { int l = near(0, plain.lodgers.size() - 1); int what = near(0, 4); same("lodger", x.lodger(l, what), plain.lodger(l, what)); break; }
            case 13: { int what = near(0, 3); same("trunk", x.trunk(t, what), plain.trunk(t, what)); break; }
            case 14: thing(); break;
            case 15: case 16: lies(i, t); break;
            case 17: { int what = near(0, 4); same("told", x.told(i, what), plain.told(i, what)); break; }
            case 18: { int kind = near(1, 5); same("mark", x.mark(i, kind), plain.mark(i, kind)); break; }
            case 19: same("may", x.may(i), plain.may(i)); break;
            case 20: same("fewest", x.fewest(), plain.fewest()); break;
            case 21: same("fits", x.fits(), plain.fits()); break;
            case 22: same("opens", x.opens(i), plain.opens(i)); break;
            case 23: same("strange", x.strange(), plain.strange()); break;
            case 24: case 25: same("water", x.water(), plain.water()); break;
            case 26: same("piling", x.piling(r), plain.piling(r)); break;
            case 27: case 28: same("share", x.share(r), plain.share(r)); break;
            case 29: case 30: same("ways", x.ways(m), plain.ways(m)); break;
            case 31: same("whose", x.whose(t, m), plain.whose(t, m)); break;
            case 32: case 33: same("sure", x.sure(m), plain.sure(m)); break;
            case 34: case 35: same("next", x.next(m), plain.next(m)); break;
            case 36: same("moves", x.moves(r, to), plain.moves(r, to)); break;
            case 37: {
                int[] given = new int[plain.trunks.size()];
                for (int k = 0; k < given.length; k++) given[k] = near(0, plain.lodgers.size() - 1);
                rowOf(4, given);
                same("moves", x.moves(4, to), plain.moves(4, to));
                break;
            }
            case 38: same("share", x.share(3), plain.share(3)); same("moves", x.moves(3, to), plain.moves(3, to)); break;
            case 39: line(); break;
            case 40: same("readings", x.readings(), plain.readings()); break;
            case 41: { int l = near(0, plain.lines.size() - 1); same("lineOf", x.lineOf(l), plain.lineOf(l)); break; }
            case 42: case 43: bit(); break;
            case 44: { int p = near(0, plain.bits.size() - 1); int q = near(0, plain.bits.size() - 1); same("joins", x.joins(p, q), plain.joins(p, q)); break; }
            case 45: same("sheets", x.sheets(r), plain.sheets(r)); same("laid", x.laid(), plain.laid()); break;
            case 46: same("travellers", x.travellers(), plain.travellers()); break;
            case 47: { int set = any(9) == 0 ? near(0, 1 << plain.things.size()) : any(1 << plain.things.size()); same("journey", x.journey(set), plain.journey(set)); break; }
            case 48: likelyClaim(); break;
            case 49: { int c = near(0, plain.claims.size() - 1); same("judge", x.judge(c), plain.judge(c)); break; }
            case 50: { int n = any(4) == 0 ? near(1, 24) : from(1, 2); same("heir", x.heir(t, n), plain.heir(t, n)); break; }
            default: { int what = near(0, 8); same("count", x.count(what), plain.count(what)); break; }
        }
    }
}
