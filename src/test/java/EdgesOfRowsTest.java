import java.math.BigInteger;

/** The edges of promises 1 to 9, sentence by sentence: rows and texts. */
public final class EdgesOfRowsTest {
    private static final String[] NO_ROWS = {"-1", "6", "7", "MOST", "LEAST", "NONE"};
    private static final String[] NO_TEXTS = {"-1", "4", "5", "MOST", "LEAST", "NONE"};

    public static void main(String[] args) {
        newObject();
        sixRows();
        fourTexts();
        row();
        lay();
        at();
        tear();
        copyInOrder();
        copyBeyond();
        copyOnItself();
        mean();
        means();
        text();
        put();
        bytes();
        Check.end();
    }

    private static void newObject() {
        Edge.of("No ROWS, TEXTS, LODGERS, TRUNKS, THINGS, LINES, BITS, CLAIMS; WEAR 1.",
            "count 0 = 0", "count 1 = 0", "count 2 = 0", "count 3 = 0", "count 4 = 0", "count 5 = 0", "count 6 = 0",
            "count 7 = 0", "count 8 = 0", "asked = 0", "many = 0", "finding = 0",
            "lodger 0 0 = BAD", "trunk 0 0 = BAD", "told 0 0 = BAD", "lineOf 0 = BAD", "joins 0 1 = BAD", "judge 0 = BAD",
            "wear 1 = 1");
        Edge.of("or missing (at first)",
            "ints 0 is missing", "ints 1 is missing", "ints 2 is missing", "ints 3 is missing", "ints 4 is missing",
            "ints 5 is missing", "fault 0 = NOTHING", "fault 1 = NOTHING", "fault 2 = NOTHING", "fault 3 = NOTHING");
        Edge.of("at first there are none. WEAR is 1 at first.", "piling 0 = 1", "ints 0 is", "water = 0 tells 10",
            "readings = 1", "wear 0 = 1");
        LostRoom full = Check.roomBy("l0-9s1t1h1 k1111^0");
        full.row(0, 1);
        Check.due("a room beside a full one", new LostRoom().digest(), digestOfNothing());
        Check.due("a full room beside a new one", full.count(0) + full.count(1) + full.count(7) + full.count(8), 4);
    }

    private static long digestOfNothing() {
        BigInteger h = BigInteger.valueOf(17);
        int[] told = {0, 0, 0, 0, 0, 0, 0, 0, 0, 1, -1, -1, -1, -1, -1, -1, -1, -1, -1, -1};
        for (int v : told) h = h.multiply(BigInteger.valueOf(31)).add(BigInteger.valueOf(v));
        return h.longValue();
    }

    private static void sixRows() {
        for (String r : new String[] {"0", "1", "2", "3", "4", "5"}) {
            Edge.of("ROWS 0 .. 5 are rows of 0 to 48 ints",
                "row " + r + " 2 = 2", "lay " + r + " 0 7 tells 0", "at " + r + " 0 tells 7",
                "copy " + r + " 0 " + r + " 1 1 = 1", "mean " + r + " tells 7", "count 7 = 1", "tear " + r + " = 1",
                "count 7 = 0", "piling " + r + " = 1", "share " + r + " = 0", "moves " + r + " " + r + " = 0",
                "sheets " + r + " = 0", "count 7 = 1", "house 'k1111^0'", "ints " + r + " : 5 1", "claim 0 0 " + r + " = 0");
        }
        for (String r : NO_ROWS) {
            Edge.of("ROWS 0 .. 5 are rows of 0 to 48 ints", "house 'k1111^0'", "ints 0 :",
                "row " + r + " 2 = BAD", "lay " + r + " 0 7 = BAD", "at " + r + " 0 = BAD",
                "copy " + r + " 0 0 0 0 = BAD", "copy 0 0 " + r + " 0 0 = BAD", "mean " + r + " = BAD",
                "tear " + r + " = BAD", "piling " + r + " = BAD", "share " + r + " = BAD", "moves " + r + " 0 = BAD",
                "moves 0 " + r + " = BAD", "sheets " + r + " = BAD", "claim 0 0 " + r + " = BAD", "count 7 = 1");
        }
    }

    private static void fourTexts() {
        for (String t : new String[] {"0", "1", "2", "3"}) {
            Edge.of("TEXTS 0 .. 3 rows of 0 to 120 bytes", "text " + t + " 1 = 1", "put " + t + " 0 107 = 1032",
                "put " + t + " 0 32 = 1107", "fault " + t + " = NONE", "book " + t + " = 0", "count 8 = 1");
        }
        for (String t : NO_TEXTS) {
            Edge.of("TEXTS 0 .. 3 rows of 0 to 120 bytes", "text " + t + " 1 = BAD", "put " + t + " 0 107 = BAD",
                "fault " + t + " = BAD", "book " + t + " = BAD", "count 8 = 0");
        }
    }

    private static void row() {
        Edge.of("A ROW is there with n ints 0: n.", "row 0 0 = 0", "ints 0 is", "row 0 1 = 1", "ints 0 is 0",
            "ints 0 : 5 6 7", "row 0 3 = 3", "ints 0 is 0 0 0", "row 0 2 = 2", "ints 0 is 0 0");
        Edge.of("A ROW is there with n ints 0: n.", "row 1 48 = 48", "at 1 0 tells 0", "at 1 47 tells 0", "at 1 48 = BEYOND");
        Edge.of("BAD: also n above 48; SIZE: below 0.", "ints 2 : 7", "row 2 49 = BAD", "row 2 MOST = BAD", "row 2 -1 = SIZE",
            "row 2 LEAST = SIZE", "ints 2 is 7", "row 3 49 = BAD", "row 3 -1 = SIZE", "ints 3 is missing",
            "row 6 -1 = BAD", "row -1 -1 = BAD", "row 6 49 = BAD", "row -1 LEAST = BAD");
    }

    private static void lay() {
        Edge.of("Place i of a ROW is v: what it was, told by asked(): 1. BAD; NOTHING; BEYOND.", "row 0 48 = 48",
            "lay 0 0 MOST tells 0", "lay 0 0 LEAST tells MOST", "lay 0 0 -1 tells LEAST", "lay 0 47 5 tells 0",
            "lay 0 47 6 tells 5", "lay 0 48 1 = BEYOND", "lay 0 -1 1 = BEYOND", "lay 0 MOST 1 = BEYOND",
            "lay 0 LEAST 1 = BEYOND", "at 0 46 tells 0", "at 0 1 tells 0", "ints 1 :", "lay 1 0 1 = BEYOND",
            "lay 1 -1 1 = BEYOND");
        Edge.of("Place i of a ROW is v: what it was, told by asked(): 1. BAD; NOTHING; BEYOND.",
            "lay 0 0 1 = NOTHING", "lay 5 -1 1 = NOTHING", "lay 5 48 1 = NOTHING", "lay 6 -1 1 = BAD", "lay -1 0 1 = BAD",
            "ints 5 : 4", "lay 5 1 1 = BEYOND", "lay 6 1 1 = BAD", "ints 5 is 4");
    }

    private static void at() {
        Edge.of("Place i of a ROW, told by asked(): 1. BAD; NOTHING; BEYOND.", "ints 0 : LEAST 0 MOST", "at 0 0 tells LEAST",
            "at 0 1 tells 0", "at 0 2 tells MOST", "at 0 3 = BEYOND", "at 0 -1 = BEYOND", "at 0 MOST = BEYOND",
            "at 0 LEAST = BEYOND", "at 1 0 = NOTHING", "at 1 -1 = NOTHING", "at 1 48 = NOTHING", "at 6 -1 = BAD",
            "at -1 0 = BAD", "ints 1 :", "at 1 0 = BEYOND", "at 1 -1 = BEYOND");
    }

    private static void tear() {
        Edge.of("A ROW is missing: 1. BAD; NOTHING.", "tear 0 = NOTHING", "ints 0 :", "tear 0 = 1", "ints 0 is missing",
            "tear 0 = NOTHING", "ints 0 : 1 2", "ints 1 : 3", "tear 0 = 1", "ints 0 is missing", "ints 1 is 3",
            "tear 6 = BAD", "tear -1 = BAD");
    }

    private static void copyInOrder() {
        String sentence = "1. BAD; SIZE: n below 0; NOTHING: either; BEYOND: not so many there "
            + "(also with n 0, if i, j is below 0, or above its size). (In this order.)";
        Edge.of(sentence, "ints 0 : 1 2 3", "ints 1 : 4 5", "copy 6 -1 1 -1 -1 = BAD", "copy 0 -1 6 -1 -1 = BAD",
            "copy -1 0 1 0 1 = BAD", "copy 0 0 -1 0 1 = BAD", "copy 2 -1 1 -1 -1 = SIZE", "copy 0 -1 2 -1 LEAST = SIZE",
            "copy 2 0 3 0 -1 = SIZE", "copy 0 0 1 0 -1 = SIZE", "copy 2 -1 1 -1 0 = NOTHING", "copy 0 -1 2 -1 0 = NOTHING",
            "copy 2 0 2 0 0 = NOTHING", "copy 2 0 1 0 MOST = NOTHING", "copy 0 0 2 0 MOST = NOTHING",
            "copy 0 -1 1 0 1 = BEYOND", "ints 0 is 1 2 3", "ints 1 is 4 5");
    }

    private static void copyBeyond() {
        String sentence = "BEYOND: not so many there (also with n 0, if i, j is below 0, or above its size)";
        Edge.of(sentence, "ints 0 : 1 2 3", "ints 1 : 4 5", "copy 0 3 1 2 0 = 1", "copy 0 0 1 0 0 = 1", "ints 1 is 4 5",
            "copy 0 4 1 2 0 = BEYOND", "copy 0 3 1 3 0 = BEYOND", "copy 0 -1 1 0 0 = BEYOND", "copy 0 0 1 -1 0 = BEYOND",
            "copy 0 2 1 1 1 = 1", "ints 1 is 4 3", "copy 0 1 1 0 2 = 1", "ints 1 is 2 3", "copy 0 2 1 0 2 = BEYOND",
            "copy 0 0 1 1 2 = BEYOND", "copy 0 0 1 0 3 = BEYOND", "copy 1 0 0 0 3 = BEYOND", "copy 0 3 1 0 1 = BEYOND",
            "copy 0 0 1 2 1 = BEYOND", "ints 0 is 1 2 3", "ints 1 is 2 3");
        Edge.of(sentence, "ints 0 : 1 2 3", "copy 0 1 0 0 MOST = BEYOND", "copy 0 0 0 1 MOST = BEYOND",
            "copy 0 MOST 0 0 MOST = BEYOND", "copy 0 MOST 0 0 1 = BEYOND", "copy 0 0 0 MOST 1 = BEYOND",
            "copy 0 LEAST 0 0 MOST = BEYOND", "copy 0 0 0 LEAST MOST = BEYOND", "copy 0 MOST 0 0 0 = BEYOND",
            "copy 0 LEAST 0 0 0 = BEYOND", "copy 0 0 0 MOST 0 = BEYOND", "copy 0 0 0 LEAST 0 = BEYOND", "ints 0 is 1 2 3");
        Edge.of(sentence, "ints 0 :", "ints 1 :", "copy 0 0 1 0 0 = 1", "copy 0 0 0 0 0 = 1", "copy 0 1 1 0 0 = BEYOND",
            "copy 0 0 1 1 0 = BEYOND", "copy 0 0 1 0 1 = BEYOND", "row 2 48 = 48", "row 3 48 = 48", "lay 2 47 9 tells 0",
            "copy 2 0 3 0 48 = 1", "at 3 47 tells 9", "copy 2 0 3 0 49 = BEYOND", "copy 2 1 3 0 48 = BEYOND",
            "copy 2 0 3 1 48 = BEYOND", "copy 2 48 3 48 0 = 1");
    }

    private static void copyOnItself() {
        String sentence = "n places of a ROW, from one on, come to those of another one (perhaps itself) from one on, as if taken ahead";
        Edge.of(sentence, "ints 0 : 1 2 3 4 5", "copy 0 0 0 1 4 = 1", "ints 0 is 1 1 2 3 4", "copy 0 1 0 0 4 = 1",
            "ints 0 is 1 2 3 4 4", "copy 0 0 0 0 5 = 1", "ints 0 is 1 2 3 4 4", "copy 0 4 0 0 1 = 1", "ints 0 is 4 2 3 4 4",
            "copy 0 0 0 2 3 = 1", "ints 0 is 4 2 4 2 3");
    }

    private static void mean() {
        Edge.of("The mean of a ROW's ints, cut, told by asked(): 1. BAD; NOTHING; NOUGHT.", "mean 0 = NOTHING", "ints 0 :",
            "mean 0 = NOUGHT", "mean 6 = BAD", "mean -1 = BAD", "ints 0 : 7", "mean 0 tells 7", "ints 0 : 1 2",
            "mean 0 tells 1", "ints 0 : -1 -2", "mean 0 tells -1", "ints 0 : -1 0", "mean 0 tells 0", "ints 0 : 1 1 0",
            "mean 0 tells 0", "ints 0 : -2 -2 -1", "mean 0 tells -1");
        Edge.of("The mean of a ROW's ints, cut, told by asked(): 1. BAD; NOTHING; NOUGHT.", "ints 0 : MOST MOST",
            "mean 0 tells MOST", "ints 0 : LEAST LEAST LEAST", "mean 0 tells LEAST", "ints 0 : MOST LEAST", "mean 0 tells 0",
            "ints 0 : MOST 1", "mean 0 tells 1073741824", "ints 0 : LEAST -1", "mean 0 tells -1073741824", "ints 0 : LEAST",
            "mean 0 tells LEAST", "tear 0 = 1", "mean 0 = NOTHING");
    }

    /** Rows of the full 48 places, of the greatest and of the least ints. */
    private static void means() {
        for (int v : new int[] {Integer.MAX_VALUE, Integer.MIN_VALUE, Integer.MAX_VALUE - 1, -1, 1}) {
            LostRoom x = new LostRoom();
            x.row(0, 48);
            for (int i = 0; i < 48; i++) x.lay(0, i, v);
            Check.tells(x, "mean of 48 times " + v, x.mean(0), v);
            x.lay(0, 47, 0);
            Check.tells(x, "mean of 47 times " + v + " and 0", x.mean(0), (int) (47L * v / 48));
        }
    }

    private static void text() {
        Edge.of("A TEXT is there with n blanks: n. BAD: also n above 120; SIZE: below 0.", "text 0 0 = 0", "put 0 0 1 = BEYOND",
            "text 0 1 = 1", "put 0 0 1 = 1032", "text 0 1 = 1", "put 0 0 1 = 1032", "text 0 120 = 120", "put 0 0 1 = 1032",
            "put 0 119 1 = 1032", "put 0 120 1 = BEYOND", "text 0 121 = BAD", "text 0 MOST = BAD", "text 0 -1 = SIZE",
            "text 0 LEAST = SIZE", "put 0 119 1 = 1001", "text 1 121 = BAD", "text 1 -1 = SIZE", "put 1 0 1 = NOTHING",
            "text 4 -1 = BAD", "text -1 -1 = BAD", "text 4 121 = BAD", "count 8 = 1");
    }

    private static void put() {
        Edge.of("Byte i of a TEXT is v, cut to a byte (-128 .. 127): what it was, and 1000 more. BAD; NOTHING; BEYOND.",
            "put 0 0 1 = NOTHING", "put 0 -1 1 = NOTHING", "put 0 120 1 = NOTHING", "put 4 0 1 = BAD", "put -1 -1 1 = BAD",
            "text 0 2 = 2", "put 0 2 1 = BEYOND", "put 0 -1 1 = BEYOND", "put 0 MOST 1 = BEYOND", "put 0 LEAST 1 = BEYOND",
            "put 4 2 1 = BAD", "put 0 1 127 = 1032", "put 0 1 -128 = 1127", "put 0 1 128 = 872", "put 0 1 0 = 872",
            "put 0 1 -129 = 1000", "put 0 1 255 = 1127", "put 0 1 256 = 999", "put 0 0 5 = 1032", "put 0 1 MOST = 1000",
            "put 0 1 LEAST = 999", "put 0 1 7 = 1000", "text 1 0 = 0", "put 1 0 1 = BEYOND");
    }

    /** Each byte that there is, told as itself and as numbers that are cut to it. */
    private static void bytes() {
        for (int more : new int[] {0, 256, -256, 65536, Integer.MIN_VALUE}) {
            for (int v = -128; v <= 127; v++) {
                LostRoom x = new LostRoom();
                x.text(0, 1);
                x.put(0, 0, v + more);
                Check.due("byte " + v + " cut from " + more + " more", x.put(0, 0, 32), 1000 + v);
            }
        }
    }
}
