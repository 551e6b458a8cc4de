import java.math.BigInteger;
import java.util.ArrayList;
import java.util.List;

/** The edges of promises 44 to 49, sentence by sentence: what is told; and the last of 512 calls. */
public final class EdgesOfToldTest {
    public static void main(String[] args) {
        askedBefore();
        askedByEach();
        askedRefused();
        askedNone();
        many();
        countOfNothing();
        countOfHouses();
        countOfThings();
        countOfPapers();
        finding();
        findings();
        findingsOfEach();
        digestOfNothing();
        digestOfAll();
        digestOfFull();
        digestOfRowsAndTexts();
        digestLeavesAsked();
        lastCall();
        Check.end();
    }

    private static void askedBefore() {
        Edge.of("told; 0 before.", "asked = 0", "count 0 = 0", "fits = 1", "asked = 0", "at 0 0 = NOTHING", "asked = 0", "row 0 1 = 1", "asked = 0",
            "at 0 0 tells 0", "lay 0 0 5 tells 0", "asked = 0", "at 0 0 tells 5", "asked = 5", "asked = 5");
    }

    private static void askedByEach() {
        String sentence = "What the latest lay(), at(), mean(), lodger(), trunk(), told(), fewest(), strange(), water(), sure(), next(), judge(), "
            + "heir() that was not refused (nor NONE) told";
        Edge.of(sentence, "house 'l11-12s3t4h5 k1234^6'", "ints 0 : 1 3", "thing 1 11 19 3 0 = 0", "lies 0 0 false = 1", "claim 7 0 0 = 0",
            "lay 0 0 -7 tells 1", "asked = 1", "at 0 0 tells -7", "asked = -7", "mean 0 tells -2", "asked = -2",
            "lodger 0 0 tells 11", "asked = 11", "trunk 0 0 tells 1234", "asked = 1234", "told 0 2 tells 19", "asked = 19", "fewest = 1 tells 1",
            "asked = 1", "strange = 0 tells NONE", "asked = NONE", "water = 0 tells 6", "asked = 6", "sure 0 = 1 tells 1", "trunk 0 2 tells 0",
            "next 0 = 0 tells 1", "trunk 0 2 tells 0", "judge 0 = 1 tells 1", "trunk 0 2 tells 0", "heir 0 1 = 7 tells 1");
    }

    private static void askedRefused() {
        String sentence = "that was not refused (nor NONE) told";
        Edge.of(sentence, "house 'l11-12s3t4h5 k1234^6'", "ints 0 : 77", "ints 1 :", "at 0 0 tells 77", "lay 6 0 1 = BAD", "lay 2 0 1 = NOTHING",
            "lay 0 1 1 = BEYOND", "at 6 0 = BAD", "at 2 0 = NOTHING", "at 0 1 = BEYOND", "mean 6 = BAD", "mean 2 = NOTHING", "mean 1 = NOUGHT",
            "lodger 1 0 = BAD", "lodger 0 5 = BAD", "trunk 1 0 = BAD", "trunk 0 4 = BAD", "told 0 0 = BAD", "sure 21 = BAD", "next 21 = BAD",
            "judge 0 = BAD", "heir 1 1 = BAD", "heir 0 0 = BAD", "asked = 77");
        Edge.of(sentence, "house 'l11-12s3t4h5 k1234^6'", "ints 0 : 77", "at 0 0 tells 77", "thing 5 0 9 1111 0 = 0", "fewest = NOUGHT",
            "told 0 5 = BAD", "asked = 77");
    }

    private static void askedNone() {
        Edge.of("that was not refused (nor NONE) told", "house 'l11-12s3t4h5 k1234^6 k1234^6'", "ints 0 : 77", "at 0 0 tells 77",
            "thing 1 0 9 3 0 = 0", "thing 1 0 9 3 0 = 1", "lies 0 0 true = 1", "lies 1 0 false = 1", "water = NONE", "sure 0 = NONE",
            "sure 20 = NONE", "next 0 = NONE", "next 20 = NONE", "heir 0 1 = NONE", "share 0 = NONE", "asked = 77");
    }

    private static void many() {
        Edge.of("What the latest fits() told; 0 before.", "many = 0", "asked = 0", "fits = 1", "many = 1", "house 'l0-9s1t1h1 l0-9s1t1h1'",
            "thing 5 0 9 1111 0 = 0", "thing 5 0 9 1111 0 = 1", "many = 1", "fits = 1", "many = 4", "thing 5 10 10 1111 0 = 2", "many = 4",
            "fits = 0", "many = 0", "book 3 = 0", "many = 0", "fits = 1", "many = 1");
    }

    private static void countOfNothing() {
        Edge.of("8 TEXTS that are there. BAD.", "count 0 = 0", "count 8 = 0", "count 9 = BAD", "count -1 = BAD", "count NONE = BAD",
            "count MOST = BAD", "count LEAST = BAD", "text 3 0 = 0", "count 8 = 1", "count 9 = BAD");
    }

    private static void countOfHouses() {
        String sentence = "0 LODGERS, 1 TRUNKS, 2 THINGS, 3 LETTERS (NAMED, too), 4 LINES, 5 BITS, 6 CLAIMS, 7 ROWS, 8 TEXTS that are there.";
        for (int n = 0; n <= 8; n++) {
            Edge.of(sentence, "house '" + "l0-9s1t1h1".repeat(n) + "k1111^0".repeat((120 - 10 * n) / 7 > 8 ? 8 : (120 - 10 * n) / 7) + "'",
                "count 0 = " + n, "count 1 = " + Math.min(8, (120 - 10 * n) / 7));
            Edge.of(sentence, "house '" + "k1111^0".repeat(n) + "'", "count 0 = 0", "count 1 = " + n);
        }
    }

    private static void countOfThings() {
        String sentence = "2 THINGS, 3 LETTERS (NAMED, too)";
        Edge.of(sentence, "house 'l0-9s1t1h1'", "thing 1 0 9 1 0 = 0", "count 3 = 0", "thing 4 0 9 1 2 = 1", "count 3 = 0", "thing 5 0 9 1111 0 = 2",
            "count 3 = 0", "thing 2 0 9 1 1 = 3", "count 3 = 1", "thing 3 0 9 11 0 = 4", "count 3 = 2", "count 2 = 5", "thing 3 0 9 11 1 = BAD",
            "count 3 = 2", "book 3 = 0", "count 3 = 0");
        Edge.of(sentence, "house 'l0-9s1t1h1'", "10 x thing 2 0 9 1 1", "10 x thing 3 0 9 11 0", "count 2 = 20", "count 3 = 20",
            "thing 2 0 9 1 1 = FULL", "count 3 = 20");
    }

    private static void countOfPapers() {
        String sentence = "4 LINES, 5 BITS, 6 CLAIMS, 7 ROWS, 8 TEXTS that are there";
        Edge.of(sentence, "house 'k1111^0'", "8 x line 0 0 9", "10 x bit 1 0 0 0", "ints 0 : 1 1", "8 x claim 0 0 0", "count 4 = 8", "count 5 = 10",
            "count 6 = 8", "count 7 = 1", "count 8 = 1", "row 0 0 = 0", "count 7 = 1", "row 1 0 = 0", "row 2 0 = 0", "row 3 0 = 0", "row 4 0 = 0",
            "row 5 0 = 0", "count 7 = 6", "tear 5 = 1", "count 7 = 5", "sheets 5 = 10", "count 7 = 6", "text 0 0 = 0", "text 1 0 = 0",
            "text 2 0 = 0", "count 8 = 4", "text 2 5 = 5", "count 8 = 4", "book 3 = 1", "count 7 = 6", "count 8 = 4");
    }

    private static void finding() {
        Edge.of("The latest FINDING (0 before any).", "finding = 0", "row 6 0 = BAD", "finding = 0", "row 0 -1 = SIZE", "finding = 5", "finding = 5",
            "at 0 0 = NOTHING", "finding = 1", "row 0 0 = 0", "finding = 1", "at 0 0 = BEYOND", "finding = 2", "mean 0 = NOUGHT", "finding = 4",
            "thing 1 0 9 1 0 = 0", "mark 0 2 = UNLIKE", "finding = 3", "row 6 -1 = BAD", "heir 0 1 = BAD", "finding = 3");
    }

    private static void findings() {
        String sentence = "How often a FINDING (1 .. 5) was answered. BAD.";
        Edge.of(sentence, "findings 0 = BAD", "findings 6 = BAD", "findings -1 = BAD", "findings MOST = BAD", "findings LEAST = BAD",
            "findings 1 = 0", "findings 5 = 0", "at 0 0 = NOTHING", "findings 1 = 1", "findings 2 = 0", "at 5 -1 = NOTHING", "findings 1 = 2",
            "row 0 -1 = SIZE", "findings 5 = 1", "findings 1 = 2", "findings 0 = BAD", "findings 6 = BAD", "findings -1 = BAD");
        LostRoom x = new LostRoom();
        for (int n = 1; n <= 250; n++) {
            x.tear(0);
            Check.due(Edge.said(sentence) + ": " + n + " times", x.findings(1), n);
        }
    }

    /** Each call that finds something, once: which FINDING it is. */
    private static void findingsOfEach() {
        Edge.of("FINDINGS: 1 NOTHING (a ROW, a TEXT that is missing)", "lay 0 0 0 = NOTHING", "at 0 0 = NOTHING", "tear 0 = NOTHING",
            "copy 0 0 0 0 0 = NOTHING", "mean 0 = NOTHING", "put 0 0 0 = NOTHING", "fault 0 = NOTHING", "book 0 = NOTHING", "moves 0 0 = NOTHING",
            "findings 1 = 9", "house 'k1111^0'", "claim 0 0 0 = NOTHING", "findings 1 = 10");
        Edge.of("2 BEYOND (a place that there is not)", "row 0 0 = 0", "text 0 0 = 0", "lay 0 0 0 = BEYOND", "at 0 0 = BEYOND",
            "copy 0 0 0 0 1 = BEYOND", "put 0 0 0 = BEYOND", "findings 2 = 4");
        Edge.of("3 UNLIKE (a THING of another KIND; a number that is none)", "house 'l0-9s1t1h1 k1111^0'", "thing 1 0 9 1 0 = 0", "ints 0 : 9 9",
            "ints 1 : 9", "mark 0 5 = UNLIKE", "opens 0 = UNLIKE", "claim 0 0 0 = UNLIKE", "moves 1 0 = UNLIKE", "findings 3 = 4");
        Edge.of("4 NOUGHT (shared among none; a THING that nobody may have owned)", "row 0 0 = 0", "mean 0 = NOUGHT", "thing 1 0 9 1 0 = 0",
            "fewest = NOUGHT", "findings 4 = 2");
        Edge.of("5 SIZE (fewer than none; not as many as due)", "house 'k1111^0'", "row 0 -1 = SIZE", "text 0 -1 = SIZE", "row 0 0 = 0",
            "copy 0 0 0 0 -1 = SIZE", "moves 0 0 = SIZE", "claim 0 0 0 = SIZE", "findings 5 = 5");
    }

    private static void mix(String what, LostRoom x, List<Integer> told) {
        BigInteger h = BigInteger.valueOf(17);
        for (int v : told) h = h.multiply(BigInteger.valueOf(31)).add(BigInteger.valueOf(v));
        Check.due(Edge.said("h = 17; then h = 31 h + v for each v") + ": " + what, x.digest(), h.longValue());
        Check.due(Edge.said("h = 17; then h = 31 h + v for each v") + ": " + what + ", again", x.digest(), h.longValue());
    }

    private static void add(List<Integer> told, int... values) {
        for (int v : values) told.add(v);
    }

    private static void digestOfNothing() {
        List<Integer> told = new ArrayList<>();
        add(told, 0, 0, 0, 0, 0, 0, 0, 0, 0, 1, -1, -1, -1, -1, -1, -1, -1, -1, -1, -1);
        mix("a new object", new LostRoom(), told);
    }

    /** A room with one of each, and numbers that are all unlike. */
    private static void digestOfAll() {
        LostRoom x = Check.roomBy("l21-22s3t4h5k1234^6k4321^7u1/0");
        x.wear(2);
        x.thing(1, 31, 32, 8, 0);
        x.thing(2, 33, 34, 0, 9);
        x.thing(3, 35, 36, 97, 0);
        x.thing(4, 37, 38, 6, 5);
        x.thing(5, 39, 40, 5123, 0);
        x.lies(1, 0, true);
        x.lies(2, 1, false);
        x.lies(4, LostRoom.NONE, true);
        x.line(17, 41, 42);
        x.bit(4, 0, 998, 1);
        Check.row(x, 5, 3, Integer.MIN_VALUE, 5, Integer.MAX_VALUE);
        x.claim(9, 1, 5);
        x.text(0, 0);
        List<Integer> told = new ArrayList<>();
        add(told, 1, 2, 5, 2, 1, 1, 1, 1, 1, 2);
        add(told, 21, 22, 3, 4, 5);
        add(told, 1234, 6, 0, 1, 4321, 7, 1, 1);
        add(told, 1, 31, 32, -9, 0, 8);
        add(told, 2, 33, 34, 0, 1, 9);
        add(told, 3, 35, 36, 1, 0, 0);
        add(told, 4, 37, 38, -9, 0, 65);
        add(told, 5, 39, 40, -9, 1, 5123);
        add(told, 17, 41, 42);
        add(told, 4, 0, 998, 1);
        add(told, 9, 1, 2, 3, Integer.MIN_VALUE, 5, Integer.MAX_VALUE);
        add(told, -1, -1, -1, -1, -1, 4, 3, Integer.MIN_VALUE, 5, Integer.MAX_VALUE);
        add(told, 0, -1, -1, -1);
        mix("one of each", x, told);
    }

    private static void digestOfFull() {
        LostRoom x = new LostRoom();
        x.text(0, 0);
        x.book(0);
        List<Integer> things = new ArrayList<>();
        for (int i = 0; i < 20; i++) {
            x.thing(5, i, i + 60, 1111, 0);
            add(things, 5, i, i + 60, -9, 0, 1111);
        }
        for (int l = 0; l < 8; l++) {
            x.line(l, 2 * l, 3 * l);
            add(things, l, 2 * l, 3 * l);
        }
        for (int i = 0; i < 10; i++) {
            x.bit(9, i, 100 * i, 99 * i);
            add(things, 9, i, 100 * i, 99 * i);
        }
        List<Integer> told = new ArrayList<>();
        add(told, 0, 0, 20, 0, 8, 10, 0, 0, 1, 1);
        told.addAll(things);
        add(told, -1, -1, -1, -1, -1, -1, 0, -1, -1, -1);
        mix("20 THINGS, 8 LINES, 10 BITS", x, told);
    }

    private static void digestOfRowsAndTexts() {
        LostRoom x = new LostRoom();
        List<Integer> told = new ArrayList<>();
        add(told, 0, 0, 0, 0, 0, 0, 0, 6, 4, 1);
        int[] sizes = {0, 1, 48, 2, 0, 3};
        for (int r = 0; r < 6; r++) {
            x.row(r, sizes[r]);
            told.add(sizes[r]);
            for (int i = 0; i < sizes[r]; i++) {
                x.lay(r, i, Integer.MAX_VALUE - i * r);
                told.add(Integer.MAX_VALUE - i * r);
            }
        }
        int[] bytes = {120, 0, 1, 2};
        for (int t = 0; t < 4; t++) {
            x.text(t, bytes[t]);
            told.add(bytes[t]);
            for (int i = 0; i < bytes[t]; i++) {
                if (i % 3 != 0) x.put(t, i, i - 128 - t);
                told.add(i % 3 != 0 ? (int) (byte) (i - 128 - t) : 32);
            }
        }
        mix("6 ROWS, 4 TEXTS", x, told);
    }

    private static void digestLeavesAsked() {
        LostRoom x = Check.roomBy("l21-22s3t4h5k1234^6");
        x.thing(1, 31, 32, 8, 0);
        x.lodger(0, 1);
        for (int n = 0; n < 3; n++) {
            x.digest();
            Check.due(Edge.said("asked() stays"), x.asked(), 22);
            Check.due(Edge.said("asked() stays") + ", and finding()", x.finding(), 0);
        }
    }

    private static void lastCall() {
        LostRoom x = new LostRoom();
        x.row(0, 48);
        for (int n = 2; n < 512; n++) x.lay(0, n % 48, n);
        Check.due(Edge.said("An object is used for at most 512 calls after it has been made") + ": the last one", x.mean(0), 1);
        LostRoom y = new LostRoom();
        for (int n = 1; n < 512; n++) y.tear(0);
        Check.due(Edge.said("An object is used for at most 512 calls after it has been made") + ": the last one", y.findings(1), 511);
    }
}
