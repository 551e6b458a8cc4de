import java.util.Arrays;

/** A lost room: lodgers, their trunks, things, and who may have owned which. DOC.md says what each call answers. */
public final class LostRoom {
    public static final int BAD = -1, FULL = -2, FINDING = -3, STATE = -4, SPENT = -6, NONE = -9;

    private static final int NOTHING = 1, BEYOND = 2, UNLIKE = 3, NOUGHT = 4, SIZE = 5;
    private static final int CLOTH = 1, LETTER = 2, NAMED = 3, TICKET = 4, KEY = 5;
    private static final int ROWS = 6, PLACES = 48, TEXTS = 4, BYTES = 120;
    private static final int LODGERS = 8, TRUNKS = 8, STANDING = 12, THINGS = 20;
    private static final int LINES = 8, BITS = 10, CLAIMS = 8, TICKETS = 10, MARKS = 24;
    private static final int LAST_YEAR = 99, HIGHEST_WATER = 10, LAST_EDGE = 999, MOST_WEAR = 4;
    private static final char BLANK = 32;

    private final int[][] rows = new int[ROWS][];
    private final byte[][] texts = new byte[TEXTS][];
    private Book house = new Book(new byte[0]);
    private int wear = 1;
    private final Thing[] things = new Thing[THINGS];
    private int thingCount;
    private final Line[] lines = new Line[LINES];
    private int lineCount;
    private final Bit[] bits = new Bit[BITS];
    private int bitCount;
    private final Claim[] claims = new Claim[CLAIMS];
    private int claimCount;
    private final Sharings sharings = new Sharings();
    private final Lays lays = new Lays();
    private final Journeys journeys = new Journeys();
    private int asked;
    private long many;
    private int finding;
    private final int[] findings = new int[SIZE + 1];

    public LostRoom() {
    }

    // ---- 1 rows, texts, books, things

    public int row(int r, int n) {
        if (!isRow(r) || n > PLACES) return BAD;
        if (n < 0) return found(SIZE);
        rows[r] = new int[n];
        return n;
    }

    public int lay(int r, int i, int v) {
        if (!isRow(r)) return BAD;
        int[] places = rows[r];
        if (places == null) return found(NOTHING);
        if (i < 0 || i >= places.length) return found(BEYOND);
        int was = places[i];
        places[i] = v;
        return tell(was);
    }

    public int at(int r, int i) {
        if (!isRow(r)) return BAD;
        int[] places = rows[r];
        if (places == null) return found(NOTHING);
        if (i < 0 || i >= places.length) return found(BEYOND);
        return tell(places[i]);
    }

    public int tear(int r) {
        if (!isRow(r)) return BAD;
        if (rows[r] == null) return found(NOTHING);
        rows[r] = null;
        return 1;
    }

    public int copy(int r, int i, int to, int j, int n) {
        if (!isRow(r) || !isRow(to)) return BAD;
        if (n < 0) return found(SIZE);
        int[] source = rows[r];
        int[] target = rows[to];
        if (source == null || target == null) return found(NOTHING);
        if (!hasRun(source.length, i, n) || !hasRun(target.length, j, n)) return found(BEYOND);
        System.arraycopy(source, i, target, j, n);
        return 1;
    }

    public int mean(int r) {
        if (!isRow(r)) return BAD;
        int[] places = rows[r];
        if (places == null) return found(NOTHING);
        if (places.length == 0) return found(NOUGHT);
        long sum = 0;
        for (int v : places) sum += v;
        return tell((int) (sum / places.length));
    }

    public int text(int t, int n) {
        if (!isText(t) || n > BYTES) return BAD;
        if (n < 0) return found(SIZE);
        byte[] bytes = new byte[n];
        Arrays.fill(bytes, (byte) BLANK);
        texts[t] = bytes;
        return n;
    }

    public int put(int t, int i, int v) {
        if (!isText(t)) return BAD;
        byte[] bytes = texts[t];
        if (bytes == null) return found(NOTHING);
        if (i < 0 || i >= bytes.length) return found(BEYOND);
        int was = bytes[i];
        bytes[i] = (byte) v;
        return 1000 + was;
    }

    public int fault(int t) {
        if (!isText(t)) return BAD;
        byte[] bytes = texts[t];
        if (bytes == null) return found(NOTHING);
        Book told = new Book(bytes);
        told.read();
        return told.fault;
    }

    public int book(int t) {
        if (!isText(t)) return BAD;
        byte[] bytes = texts[t];
        if (bytes == null) return found(NOTHING);
        Book told = new Book(bytes);
        told.read();
        if (told.fault != NONE) return STATE;
        house = told;
        thingCount = 0;
        lineCount = 0;
        bitCount = 0;
        claimCount = 0;
        sharings.stale = true;
        lays.stale = true;
        return house.trunkCount;
    }

    public int wear(int w) {
        if (!within(w, 0, MOST_WEAR)) return BAD;
        int was = wear;
        wear = w;
        return was;
    }

    public int lodger(int l, int what) {
        if (!isLodger(l) || !within(what, 0, 4)) return BAD;
        return tell(lodgerFact(l, what));
    }

    public int trunk(int t, int what) {
        if (!isTrunk(t) || !within(what, 0, 3)) return BAD;
        return tell(trunkFact(t, what));
    }

    public int thing(int kind, int a, int b, int x, int y) {
        if (!areYears(a, b)) return BAD;
        int number = numberOf(kind, x, y);
        if (number == BAD) return BAD;
        if (kind == NAMED && !isLodger(y)) return BAD;
        if (thingCount >= THINGS) return FULL;
        Thing made = new Thing(kind, a, b, number, kind == NAMED ? y : NONE);
        made.owners = ownersOf(made);
        things[thingCount] = made;
        sharings.stale = true;
        return thingCount++;
    }

    public int lies(int i, int t, boolean wet) {
        if (!isThing(i)) return BAD;
        if (t != NONE && !isTrunk(t)) return BAD;
        things[i].trunk = t;
        things[i].wet = wet;
        sharings.stale = true;
        return 1;
    }

    public int told(int i, int what) {
        if (!isThing(i) || !within(what, 0, 4)) return BAD;
        return tell(thingFact(i, what));
    }

    public int mark(int i, int kind) {
        if (!isThing(i) || !isKind(kind)) return BAD;
        Thing one = things[i];
        return one.isOf(kind) ? one.tells(kind) : found(UNLIKE);
    }

    // ---- 2 who may, keys, water, piles

    public int may(int i) {
        return isThing(i) ? things[i].owners : BAD;
    }

    public int fewest() {
        int best = NONE;
        for (int set = 0; set < 1 << house.lodgerCount; set++) {
            boolean fewer = best == NONE || Integer.bitCount(set) < Integer.bitCount(best);
            if (fewer && ownAll(set)) best = set;
        }
        if (best == NONE) return found(NOUGHT);
        asked = best;
        return Integer.bitCount(best);
    }

    public int fits() {
        long all = 1;
        for (int i = 0; i < thingCount; i++) all *= Integer.bitCount(things[i].owners);
        many = all;
        return all == 0 ? 0 : 1;
    }

    public int opens(int i) {
        if (!isThing(i)) return BAD;
        return things[i].kind == KEY ? opened(things[i]) : found(UNLIKE);
    }

    public int strange() {
        int all = 0;
        int first = NONE;
        for (int i = 0; i < thingCount; i++) {
            Thing one = things[i];
            if (one.kind != KEY || one.trunk == NONE) continue;
            int set = opened(one);
            if (set == 0 || has(set, one.trunk)) continue;
            if (all == 0) first = i;
            all++;
        }
        asked = first;
        return all;
    }

    public int water() {
        int low = 0;
        int high = HIGHEST_WATER;
        for (int i = 0; i < thingCount; i++) {
            Thing one = things[i];
            if (!isTrunk(one.trunk)) continue;
            int height = house.trunks[one.trunk].height;
            if (one.wet) low = Math.max(low, height + 1);
            else high = Math.min(high, height);
        }
        if (low > high) return NONE;
        asked = high;
        return low;
    }

    public int piling(int r) {
        if (!isRow(r)) return BAD;
        int[] first = new int[house.trunkCount];
        int set = 0;
        for (int place = 0; place < first.length; place++) {
            int t = firstToFollow(set);
            if (t == NONE) return NONE;
            first[place] = t;
            set |= 1 << t;
        }
        rows[r] = first;
        return ordersOfAll();
    }

    // ---- 3 whose trunks, lists

    public int share(int r) {
        if (!isRow(r)) return BAD;
        refreshSharings();
        if (sharings.least == NONE) return NONE;
        rows[r] = Arrays.copyOf(sharings.first, house.trunkCount);
        return sharings.least;
    }

    public int ways(int m) {
        if (!within(m, 0, THINGS)) return BAD;
        refreshSharings();
        return sharings.all[m];
    }

    public int whose(int t, int m) {
        if (!isTrunk(t) || !within(m, 0, THINGS)) return BAD;
        refreshSharings();
        int set = 0;
        for (int l = 0; l < house.lodgerCount; l++) {
            if (sharings.withPair(m, t, l) > 0) set |= 1 << l;
        }
        return set;
    }

    public int sure(int m) {
        if (!within(m, 0, THINGS)) return BAD;
        refreshSharings();
        int all = sharings.all[m];
        if (all == 0) return NONE;
        int always = 0;
        int ever = 0;
        for (int l = 0; l < house.lodgerCount; l++) {
            int with = 0;
            for (int t = 0; t < house.trunkCount; t++) with += sharings.withPair(m, t, l);
            if (with == all) always |= 1 << l;
            if (with > 0) ever |= 1 << l;
        }
        asked = ever;
        return always;
    }

    public int next(int m) {
        if (!within(m, 0, THINGS)) return BAD;
        refreshSharings();
        if (sharings.all[m] == 0 || house.trunkCount == 0) return NONE;
        int best = NONE;
        int fewest = 0;
        for (int t = 0; t < house.trunkCount; t++) {
            int most = 0;
            for (int l = 0; l < house.lodgerCount; l++) most = Math.max(most, sharings.withPair(m, t, l));
            if (best == NONE || most < fewest) {
                best = t;
                fewest = most;
            }
        }
        asked = fewest;
        return best;
    }

    public int moves(int r, int to) {
        if (!isRow(r) || !isRow(to)) return BAD;
        int[] given = rows[r];
        if (given == null) return found(NOTHING);
        if (given.length != house.trunkCount) return found(SIZE);
        refreshSharings();
        if (!sharings.isSharing(given)) return found(UNLIKE);
        int[] pairs = new int[2 * thingCount];
        int size = 0;
        for (int i = 0; i < thingCount; i++) {
            Thing one = things[i];
            if (!isTrunk(one.trunk) || has(one.owners, given[one.trunk])) continue;
            pairs[size] = i;
            pairs[size + 1] = firstTrunkFor(one, given);
            size += 2;
        }
        rows[to] = Arrays.copyOf(pairs, size);
        return size / 2;
    }

    public int line(int n, int a, int b) {
        if (!within(n, 0, THINGS) || !areYears(a, b)) return BAD;
        if (lineCount >= LINES) return FULL;
        lines[lineCount] = new Line(n, a, b);
        return lineCount++;
    }

    public int readings() {
        return readingsBy(trunksForLines(), new int[1 << house.trunkCount]);
    }

    public int lineOf(int l) {
        if (!within(l, 0, lineCount - 1)) return BAD;
        int[] fitting = trunksForLines();
        int[] table = new int[1 << house.trunkCount];
        int could = fitting[l];
        int set = 0;
        for (int t = 0; t < house.trunkCount; t++) {
            fitting[l] = could & 1 << t;
            if (readingsBy(fitting, table) > 0) set |= 1 << t;
        }
        return set;
    }

    // ---- 4 bits, tickets, claims

    public int bit(int hand, int fold, int left, int right) {
        if (!within(hand, 1, 9) || !within(fold, 0, 9)) return BAD;
        if (!within(left, 0, LAST_EDGE) || !within(right, 0, LAST_EDGE)) return BAD;
        if (bitCount >= BITS) return FULL;
        bits[bitCount] = new Bit(hand, fold, left, right);
        lays.stale = true;
        return bitCount++;
    }

    public int joins(int i, int j) {
        if (!within(i, 0, bitCount - 1) || !within(j, 0, bitCount - 1) || i == j) return BAD;
        return bits[i].meets(bits[j]) ? 1 : 0;
    }

    public int sheets(int r) {
        if (!isRow(r)) return BAD;
        refreshLays();
        rows[r] = Arrays.copyOf(lays.first, bitCount);
        return lays.fewest;
    }

    public int laid() {
        refreshLays();
        return lays.all;
    }

    public int travellers() {
        int tickets = journeys.gather(things, thingCount, (1 << thingCount) - 1);
        return tickets > TICKETS ? SPENT : journeys.fewestPeople();
    }

    public int journey(int set) {
        if (!within(set, 0, (1 << thingCount) - 1)) return BAD;
        int tickets = journeys.gather(things, thingCount, set);
        if (tickets > TICKETS) return SPENT;
        return journeys.isOne() ? 1 : 0;
    }

    public int claim(int heir, int t, int r) {
        if (!within(heir, 0, 9) || !isTrunk(t) || !isRow(r)) return BAD;
        int[] marks = rows[r];
        if (marks == null) return found(NOTHING);
        if (marks.length == 0 || marks.length % 2 != 0) return found(SIZE);
        if (claimCount >= CLAIMS) return FULL;
        for (int i = 0; i < marks.length; i += 2) {
            if (!isKind(marks[i])) return found(UNLIKE);
        }
        claims[claimCount] = new Claim(heir, t, marks.clone());
        return claimCount++;
    }

    public int judge(int c) {
        if (!within(c, 0, claimCount - 1)) return BAD;
        asked = claims[c].marks.length / 2;
        return trueMarks(claims[c]);
    }

    public int heir(int t, int n) {
        if (!isTrunk(t) || !within(n, 1, MARKS)) return BAD;
        int best = 0;
        int who = NONE;
        for (int c = 0; c < claimCount; c++) {
            Claim one = claims[c];
            int right = one.trunk == t ? trueMarks(one) : 0;
            if (right < n || right < best) continue;
            // a later claim as good as the best so far leaves nobody, unless it is of the same heir
            who = right > best || who == one.heir ? one.heir : NONE;
            best = right;
        }
        if (who == NONE) return NONE;
        asked = best;
        return who;
    }

    // ---- 5 what is told

    public int asked() {
        return asked;
    }

    public long many() {
        return many;
    }

    public int count(int what) {
        switch (what) {
            case 0: return house.lodgerCount;
            case 1: return house.trunkCount;
            case 2: return thingCount;
            case 3: return letters();
            case 4: return lineCount;
            case 5: return bitCount;
            case 6: return claimCount;
            case 7: return rowsThere();
            case 8: return textsThere();
            default: return BAD;
        }
    }

    public int finding() {
        return finding;
    }

    public int findings(int f) {
        return within(f, NOTHING, SIZE) ? findings[f] : BAD;
    }

    public long digest() {
        long h = 17;
        for (int what = 0; what <= 8; what++) h = mix(h, count(what));
        h = mix(h, wear);
        return mixRows(mixPapers(mixThings(mixHouse(h))));
    }

    // ---- what the calls lean on

    private static boolean within(int v, int low, int high) {
        return v >= low && v <= high;
    }

    private static boolean has(int set, int i) {
        return (set >> i & 1) != 0;
    }

    private static boolean areYears(int a, int b) {
        return a >= 0 && a <= b && b <= LAST_YEAR;
    }

    private static boolean isKind(int kind) {
        return within(kind, CLOTH, KEY);
    }

    private static boolean isRow(int r) {
        return within(r, 0, ROWS - 1);
    }

    private static boolean isText(int t) {
        return within(t, 0, TEXTS - 1);
    }

    private boolean isLodger(int l) {
        return within(l, 0, house.lodgerCount - 1);
    }

    private boolean isTrunk(int t) {
        return within(t, 0, house.trunkCount - 1);
    }

    private boolean isThing(int i) {
        return within(i, 0, thingCount - 1);
    }

    /** Whether a row of that size has n places from place i on; written so that no sum can run over. */
    private static boolean hasRun(int size, int i, int n) {
        return i >= 0 && i <= size && n <= size - i;
    }

    private int found(int which) {
        finding = which;
        findings[which]++;
        return FINDING;
    }

    private int tell(int v) {
        asked = v;
        return 1;
    }

    private int lodgerFact(int l, int what) {
        Lodger one = house.lodgers[l];
        switch (what) {
            case 0: return one.from;
            case 1: return one.till;
            case 2: return one.size;
            case 3: return one.town;
            default: return one.hand;
        }
    }

    private int trunkFact(int t, int what) {
        Trunk one = house.trunks[t];
        switch (what) {
            case 0: return one.lock;
            case 1: return one.height;
            case 2: return one.above;
            default: return thingsIn(t);
        }
    }

    private int thingFact(int i, int what) {
        Thing one = things[i];
        switch (what) {
            case 0: return one.kind;
            case 1: return one.from;
            case 2: return one.till;
            case 3: return one.trunk;
            default: return one.wet ? 1 : 0;
        }
    }

    private int thingsIn(int t) {
        int all = 0;
        for (int i = 0; i < thingCount; i++) {
            if (things[i].trunk == t) all++;
        }
        return all;
    }

    private int letters() {
        int all = 0;
        for (int i = 0; i < thingCount; i++) {
            if (things[i].isOf(LETTER)) all++;
        }
        return all;
    }

    private int rowsThere() {
        int all = 0;
        for (int r = 0; r < ROWS; r++) {
            if (rows[r] != null) all++;
        }
        return all;
    }

    private int textsThere() {
        int all = 0;
        for (int t = 0; t < TEXTS; t++) {
            if (texts[t] != null) all++;
        }
        return all;
    }

    /** What a THING so told tells by its KIND (a NAMED one as a LETTER), or BAD if it is not as told. */
    private static int numberOf(int kind, int x, int y) {
        switch (kind) {
            case CLOTH: return within(x, 1, 9) ? x : BAD;
            case LETTER: return within(x, 0, 9) && within(y, 1, 9) ? 10 * x + y : BAD;
            case NAMED: return within(x, 1, 99) && x % 10 != 0 ? x : BAD;
            case TICKET: return within(x, 1, 9) && within(y, 1, 9) && x != y ? 10 * x + y : BAD;
            case KEY: return isKeyNumber(x) ? x : BAD;
            default: return BAD;
        }
    }

    private static boolean isKeyNumber(int x) {
        if (!within(x, 1111, 5555)) return false;
        for (int rest = x; rest > 0; rest /= 10) {
            if (!within(rest % 10, 1, 5)) return false;
        }
        return true;
    }

    private int ownersOf(Thing one) {
        int set = 0;
        for (int l = 0; l < house.lodgerCount; l++) {
            if (one.suits(house.lodgers[l], l)) set |= 1 << l;
        }
        return set;
    }

    private boolean ownAll(int set) {
        for (int i = 0; i < thingCount; i++) {
            if ((things[i].owners & set) == 0) return false;
        }
        return true;
    }

    private int opened(Thing key) {
        int set = 0;
        for (int t = 0; t < house.trunkCount; t++) {
            if (turns(key.number, house.trunks[t].lock)) set |= 1 << t;
        }
        return set;
    }

    private boolean turns(int key, int lock) {
        int all = 0;
        for (int figure = 1; figure <= 1000; figure *= 10) {
            int off = Math.abs(key / figure % 10 - lock / figure % 10);
            if (off > 1) return false;
            all += off;
        }
        return all <= wear;
    }

    private boolean canFollow(int set, int t) {
        return !has(set, t) && (house.trunks[t].below & ~set) == 0;
    }

    /** How many ORDERS there are. The table: for a set of TRUNKS already piled, how the others can follow. */
    private int ordersOfAll() {
        int n = house.trunkCount;
        int[] orders = new int[1 << n];
        orders[orders.length - 1] = 1;
        for (int set = orders.length - 2; set >= 0; set--) {
            for (int t = 0; t < n; t++) {
                if (canFollow(set, t)) orders[set] += orders[set | 1 << t];
            }
        }
        return orders[0];
    }

    private int firstToFollow(int set) {
        for (int t = 0; t < house.trunkCount; t++) {
            if (canFollow(set, t)) return t;
        }
        return NONE;
    }

    private void refreshSharings() {
        if (sharings.stale) sharings.gather(house, things, thingCount);
    }

    private void refreshLays() {
        if (lays.stale) lays.gather(bits, bitCount);
    }

    private int firstTrunkFor(Thing one, int[] given) {
        for (int t = 0; t < given.length; t++) {
            if (has(one.owners, given[t])) return t;
        }
        return NONE;
    }

    /** For each LINE the TRUNKS (bits) that it FITS. */
    private int[] trunksForLines() {
        int[] fitting = new int[lineCount];
        for (int l = 0; l < lineCount; l++) {
            for (int t = 0; t < house.trunkCount; t++) {
                if (fitsTrunk(lines[l], t)) fitting[l] |= 1 << t;
            }
        }
        return fitting;
    }

    private boolean fitsTrunk(Line one, int t) {
        int all = 0;
        for (int i = 0; i < thingCount; i++) {
            Thing lying = things[i];
            if (lying.trunk != t) continue;
            if (lying.till < one.from || lying.from > one.till) return false;
            all++;
        }
        return all == one.size;
    }

    /**
     * How many READINGS there are by the TRUNKS that each LINE FITS. The table counts, for a set of n TRUNKS, in how
     * many ways the first n LINES have just those.
     */
    private int readingsBy(int[] fitting, int[] table) {
        Arrays.fill(table, 0);
        table[0] = 1;
        int all = 0;
        for (int set = 0; set < table.length; set++) {
            int line = Integer.bitCount(set);
            if (line == fitting.length) all += table[set];
            if (line >= fitting.length) continue;
            for (int t = 0; t < house.trunkCount; t++) {
                if (has(fitting[line], t) && !has(set, t)) table[set | 1 << t] += table[set];
            }
        }
        return all;
    }

    private int trueMarks(Claim one) {
        int all = 0;
        for (int i = 0; i + 1 < one.marks.length; i += 2) {
            if (isTrue(one.trunk, one.marks[i], one.marks[i + 1])) all++;
        }
        return all;
    }

    private boolean isTrue(int t, int kind, int number) {
        for (int i = 0; i < thingCount; i++) {
            Thing one = things[i];
            if (one.trunk == t && one.isOf(kind) && one.tells(kind) == number) return true;
        }
        return false;
    }

    private long mixHouse(long before) {
        long h = before;
        for (int l = 0; l < house.lodgerCount; l++) {
            for (int what = 0; what <= 4; what++) h = mix(h, lodgerFact(l, what));
        }
        for (int t = 0; t < house.trunkCount; t++) {
            for (int what = 0; what <= 3; what++) h = mix(h, trunkFact(t, what));
        }
        return h;
    }

    private long mixThings(long before) {
        long h = before;
        for (int i = 0; i < thingCount; i++) {
            for (int what = 0; what <= 4; what++) h = mix(h, thingFact(i, what));
            h = mix(h, things[i].tells(things[i].kind));
        }
        return h;
    }

    private long mixPapers(long before) {
        long h = before;
        for (int l = 0; l < lineCount; l++) {
            Line one = lines[l];
            h = mix(mix(mix(h, one.size), one.from), one.till);
        }
        for (int i = 0; i < bitCount; i++) {
            Bit one = bits[i];
            h = mix(mix(mix(mix(h, one.hand), one.fold), one.left), one.right);
        }
        for (int c = 0; c < claimCount; c++) {
            Claim one = claims[c];
            h = mix(mix(mix(h, one.heir), one.trunk), one.marks.length / 2);
            for (int v : one.marks) h = mix(h, v);
        }
        return h;
    }

    private long mixRows(long before) {
        long h = before;
        for (int r = 0; r < ROWS; r++) {
            int[] places = rows[r];
            h = mix(h, places == null ? -1 : places.length);
            if (places == null) continue;
            for (int v : places) h = mix(h, v);
        }
        for (int t = 0; t < TEXTS; t++) {
            byte[] bytes = texts[t];
            h = mix(h, bytes == null ? -1 : bytes.length);
            if (bytes == null) continue;
            for (byte v : bytes) h = mix(h, v);
        }
        return h;
    }

    private static long mix(long h, int v) {
        return 31 * h + v;
    }

    private static final class Lodger {
        final int from, till, size, town, hand;

        Lodger(int from, int till, int size, int town, int hand) {
            this.from = from;
            this.till = till;
            this.size = size;
            this.town = town;
            this.hand = hand;
        }
    }

    private static final class Trunk {
        final int lock, height;
        /** TRUNKS (bits) that stand on it, and on which it stands. */
        int above, below;

        Trunk(int lock, int height) {
            this.lock = lock;
            this.height = height;
        }
    }

    /** A TEXT read as a BOOK: what it tells, up to its FAULT. */
    private static final class Book {
        final Lodger[] lodgers = new Lodger[LODGERS];
        final Trunk[] trunks = new Trunk[TRUNKS];
        int lodgerCount, trunkCount;
        int fault = NONE;
        private int standing;
        private final byte[] bytes;
        private int place;

        Book(byte[] bytes) {
            this.bytes = bytes;
        }

        void read() {
            // every item takes a byte at least
            for (int items = 0; items < bytes.length; items++) {
                if (fault == NONE && place < bytes.length) readItem(bytes[place]);
            }
        }

        private void readItem(int letter) {
            if (letter == BLANK) place++;
            else if (letter == 'l' && lodgerCount < LODGERS) readLodger();
            else if (letter == 'k' && trunkCount < TRUNKS) readTrunk();
            else if (letter == 'u' && standing < STANDING) readStanding();
            else fault = place;
        }

        private void readLodger() {
            place++;
            int from = readYear();
            readSign('-');
            int till = readYear();
            if (fault == NONE && till < from) fault = place;
            readSign('s');
            int size = readFigure(1, 9);
            readSign('t');
            int town = readFigure(1, 9);
            readSign('h');
            int hand = readFigure(1, 9);
            if (fault != NONE) return;
            lodgers[lodgerCount] = new Lodger(from, till, size, town, hand);
            lodgerCount++;
        }

        private void readTrunk() {
            place++;
            int lock = 0;
            for (int i = 0; i < 4; i++) lock = 10 * lock + readFigure(1, 5);
            readSign('^');
            int height = readFigure(0, 9);
            if (fault != NONE) return;
            trunks[trunkCount] = new Trunk(lock, height);
            trunkCount++;
        }

        private void readStanding() {
            place++;
            int lower = readFigure(0, trunkCount - 1);
            readSign('/');
            int placeOfUpper = place;
            int upper = readFigure(0, trunkCount - 1);
            if (fault == NONE && upper == lower) fault = placeOfUpper;
            if (fault != NONE) return;
            standing++;
            trunks[lower].above |= 1 << upper;
            trunks[upper].below |= 1 << lower;
        }

        private int readYear() {
            int year = readFigure(0, 9);
            boolean second = fault == NONE && place < bytes.length && within(bytes[place], '0', '9');
            return second ? 10 * year + readFigure(0, 9) : year;
        }

        private int readFigure(int low, int high) {
            if (fault != NONE) return 0;
            if (place >= bytes.length || !within(bytes[place] - '0', low, high)) {
                fault = place;
                return 0;
            }
            int figure = bytes[place] - '0';
            place++;
            return figure;
        }

        private void readSign(char sign) {
            if (fault != NONE) return;
            if (place < bytes.length && bytes[place] == sign) place++;
            else fault = place;
        }
    }

    private static final class Thing {
        final int kind, from, till;
        /** What it tells by its KIND; of a NAMED one as a LETTER. */
        final int number;
        /** The LODGER to whom a NAMED one is. */
        final int receiver;
        /** LODGERS (bits) who MAY have owned it: settled when it comes, since another BOOK takes the THINGS away. */
        int owners;
        int trunk = NONE;
        boolean wet;

        Thing(int kind, int from, int till, int number, int receiver) {
            this.kind = kind;
            this.from = from;
            this.till = till;
            this.number = number;
            this.receiver = receiver;
        }

        boolean isOf(int asKind) {
            return kind == asKind || kind == NAMED && asKind == LETTER;
        }

        int tells(int asKind) {
            return asKind == NAMED ? receiver : number;
        }

        boolean suits(Lodger one, int l) {
            if (till < one.from || from > one.till) return false;
            switch (kind) {
                case CLOTH: return Math.abs(number - one.size) <= 1;
                case LETTER: return suitsAsLetter(one);
                case NAMED: return l == receiver && suitsAsLetter(one);
                case TICKET: return number / 10 == one.town || number % 10 == one.town;
                default: return true;
            }
        }

        private boolean suitsAsLetter(Lodger one) {
            int town = number / 10;
            return (town == 0 || town == one.town) && number % 10 != one.hand;
        }
    }

    private static final class Line {
        final int size, from, till;

        Line(int size, int from, int till) {
            this.size = size;
            this.from = from;
            this.till = till;
        }
    }

    private static final class Bit {
        final int hand, fold, left, right;

        Bit(int hand, int fold, int left, int right) {
            this.hand = hand;
            this.fold = fold;
            this.left = left;
            this.right = right;
        }

        boolean meets(Bit other) {
            return right + other.left == 1000 && hand == other.hand && fold == other.fold;
        }
    }

    private static final class Claim {
        final int heir, trunk;
        final int[] marks;

        Claim(int heir, int trunk, int[] marks) {
            this.heir = heir;
            this.trunk = trunk;
            this.marks = marks;
        }
    }

    /** All SHARINGS counted at once, for many calls may ask of the same ones. */
    private static final class Sharings {
        private static final int PAIRS = LODGERS * TRUNKS;

        boolean stale = true;
        int least;
        final int[] first = new int[TRUNKS];
        /** By m: how many SHARINGS OF m there are. */
        final int[] all = new int[THINGS + 1];
        /** By m, a TRUNK and a LODGER: in how many SHARINGS OF m that one has it. */
        private final int[] pairs = new int[(THINGS + 1) * PAIRS];

        private Trunk[] trunks;
        private int trunkCount, lodgerCount;
        /** By a TRUNK and a LODGER: how many THINGS in it he may not have owned. */
        private final int[] strangers = new int[PAIRS];
        /** By a set of LODGERS: whether each THING may be one's of them. */
        private final boolean[] covers = new boolean[1 << LODGERS];
        /** By a LODGER: those who left no earlier, and no later. */
        private final int[] notEarlier = new int[LODGERS], notLater = new int[LODGERS];
        private final int[] chosen = new int[TRUNKS];

        int withPair(int m, int t, int l) {
            return pairs[m * PAIRS + t * LODGERS + l];
        }

        void gather(Book house, Thing[] things, int thingCount) {
            trunks = house.trunks;
            trunkCount = house.trunkCount;
            lodgerCount = house.lodgerCount;
            compareYears(house.lodgers);
            countStrangers(things, thingCount);
            findCovers(things, thingCount);
            least = NONE;
            Arrays.fill(all, 0);
            Arrays.fill(pairs, 0);
            give(this, 0, 0, 0);
            for (int m = 1; m <= THINGS; m++) {
                all[m] += all[m - 1];
                for (int p = 0; p < PAIRS; p++) pairs[m * PAIRS + p] += pairs[(m - 1) * PAIRS + p];
            }
            stale = false;
        }

        boolean isSharing(int[] given) {
            if (given.length != trunkCount) return false;
            int used = 0;
            for (int t = 0; t < trunkCount; t++) {
                int l = given[t];
                if (!within(l, 0, lodgerCount - 1) || !has(open(t, used), l)) return false;
                chosen[t] = l;
                used |= 1 << l;
            }
            return covers[used];
        }

        /** Gives TRUNK t and all behind it their LODGERS; depth is t, at most TRUNKS. */
        private static void give(Sharings s, int t, int used, int moved) {
            if (t >= s.trunkCount) {
                if (s.covers[used]) s.note(moved);
                return;
            }
            int open = s.open(t, used);
            for (int l = 0; l < s.lodgerCount; l++) {
                if (!has(open, l)) continue;
                s.chosen[t] = l;
                give(s, t + 1, used | 1 << l, moved + s.strangers[t * LODGERS + l]);
            }
        }

        /** LODGERS (bits) who can have TRUNK t beside those who have the TRUNKS ahead of it. */
        private int open(int t, int used) {
            int set = (1 << lodgerCount) - 1 & ~used;
            Trunk one = trunks[t];
            for (int i = 0; i < t; i++) {
                if (has(one.below, i)) set &= notEarlier[chosen[i]];
                if (has(one.above, i)) set &= notLater[chosen[i]];
            }
            return set;
        }

        private void note(int moved) {
            all[moved]++;
            for (int t = 0; t < trunkCount; t++) pairs[moved * PAIRS + t * LODGERS + chosen[t]]++;
            if (least != NONE && moved >= least) return;
            least = moved;
            System.arraycopy(chosen, 0, first, 0, TRUNKS);
        }

        private void compareYears(Lodger[] lodgers) {
            for (int l = 0; l < lodgerCount; l++) {
                notEarlier[l] = 0;
                notLater[l] = 0;
                for (int other = 0; other < lodgerCount; other++) {
                    if (lodgers[other].till >= lodgers[l].till) notEarlier[l] |= 1 << other;
                    if (lodgers[other].till <= lodgers[l].till) notLater[l] |= 1 << other;
                }
            }
        }

        private void countStrangers(Thing[] things, int thingCount) {
            Arrays.fill(strangers, 0);
            for (int i = 0; i < thingCount; i++) {
                Thing one = things[i];
                if (one.trunk == NONE) continue;
                for (int l = 0; l < lodgerCount; l++) {
                    if (!has(one.owners, l)) strangers[one.trunk * LODGERS + l]++;
                }
            }
        }

        private void findCovers(Thing[] things, int thingCount) {
            for (int set = 0; set < 1 << lodgerCount; set++) {
                boolean all = true;
                for (int i = 0; i < thingCount && all; i++) all = (things[i].owners & set) != 0;
                covers[set] = all;
            }
        }
    }

    /** All rows in which BITS can be LAID, by sets of BITS already laid and the last one of them. */
    private static final class Lays {
        boolean stale = true;
        int fewest, all;
        final int[] first = new int[BITS];

        private int size;
        /** By a BIT: BITS (bits) that it JOINS. */
        private final int[] joined = new int[BITS];
        /** By slot: the fewest SHEETS that the BITS not yet laid begin, and in how many rows. */
        private final int[] sheets = new int[(1 << BITS) * BITS], ways = new int[(1 << BITS) * BITS];

        void gather(Bit[] bits, int bitCount) {
            size = bitCount;
            for (int i = 0; i < size; i++) {
                joined[i] = 0;
                for (int j = 0; j < size; j++) {
                    if (i != j && bits[i].meets(bits[j])) joined[i] |= 1 << j;
                }
            }
            for (int set = (1 << size) - 1; set > 0; set--) {
                for (int last = 0; last < size; last++) {
                    if (has(set, last)) follow(set, slot(set, last), joined[last]);
                }
            }
            // ahead of the first place lies no BIT, so the first one begins a SHEET
            follow(0, slot(0, 0), 0);
            fewest = sheets[slot(0, 0)];
            all = ways[slot(0, 0)];
            findFirst();
            stale = false;
        }

        private static int slot(int set, int last) {
            return set * BITS + last;
        }

        private void follow(int set, int here, int joins) {
            sheets[here] = 0;
            ways[here] = 0;
            if (set == (1 << size) - 1) ways[here] = 1;
            for (int i = 0; i < size; i++) {
                if (has(set, i)) continue;
                int there = slot(set | 1 << i, i);
                int begun = sheets[there] + (has(joins, i) ? 0 : 1);
                if (ways[here] == 0 || begun < sheets[here]) {
                    sheets[here] = begun;
                    ways[here] = ways[there];
                } else if (begun == sheets[here]) {
                    ways[here] += ways[there];
                }
            }
        }

        private void findFirst() {
            int set = 0;
            int here = slot(0, 0);
            int joins = 0;
            for (int place = 0; place < size; place++) {
                int i = nextOf(set, here, joins);
                first[place] = i;
                set |= 1 << i;
                here = slot(set, i);
                joins = joined[i];
            }
        }

        private int nextOf(int set, int here, int joins) {
            for (int i = 0; i < size; i++) {
                if (has(set, i)) continue;
                int begun = sheets[slot(set | 1 << i, i)] + (has(joins, i) ? 0 : 1);
                if (begun == sheets[here]) return i;
            }
            return 0;
        }
    }

    /** Journeys by sets of TICKETS. */
    private static final class Journeys {
        private final Thing[] tickets = new Thing[TICKETS];
        private int size;
        /** By a TICKET: those (bits) that went to where it is from. */
        private final int[] ahead = new int[TICKETS];
        /** By a set of TICKETS: those (bits) that can be the last of one journey by them all. */
        private final int[] lasts = new int[1 << TICKETS];
        /** By a set of TICKETS: the first year in which such a journey can be over. */
        private final int[] over = new int[1 << TICKETS];
        /** By a set of TICKETS: the fewest TRAVELLERS that make them. */
        private final int[] people = new int[1 << TICKETS];

        /** How many TICKETS there are in a set of THINGS; only the first TICKETS of them are kept. */
        int gather(Thing[] things, int thingCount, int set) {
            int all = 0;
            for (int i = 0; i < thingCount; i++) {
                if (!has(set, i) || things[i].kind != TICKET) continue;
                if (all < TICKETS) tickets[all] = things[i];
                all++;
            }
            size = Math.min(all, TICKETS);
            return all;
        }

        boolean isOne() {
            findLasts();
            return size == 0 || lasts[(1 << size) - 1] != 0;
        }

        int fewestPeople() {
            findLasts();
            for (int set = 1; set < 1 << size; set++) {
                people[set] = size;
                for (int part = set; part > 0; part = part - 1 & set) {
                    if (lasts[part] != 0) people[set] = Math.min(people[set], people[set & ~part] + 1);
                }
            }
            return people[(1 << size) - 1];
        }

        private void findLasts() {
            findAhead();
            for (int set = 1; set < 1 << size; set++) {
                lasts[set] = 0;
                over[set] = 0;
                for (int last = 0; last < size; last++) {
                    if (!has(set, last)) continue;
                    over[set] = Math.max(over[set], tickets[last].from);
                    if (canEnd(set & ~(1 << last), last)) lasts[set] |= 1 << last;
                }
            }
        }

        private void findAhead() {
            for (int i = 0; i < size; i++) {
                ahead[i] = 0;
                for (int j = 0; j < size; j++) {
                    if (tickets[j].number % 10 == tickets[i].number / 10) ahead[i] |= 1 << j;
                }
            }
        }

        private boolean canEnd(int others, int last) {
            if (others == 0) return true;
            return over[others] <= tickets[last].till && (lasts[others] & ahead[last]) != 0;
        }
    }
}
