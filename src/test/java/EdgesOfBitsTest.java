import java.util.ArrayList;
import java.util.List;

/** The edges of promises 35 to 38, sentence by sentence: BITS and SHEETS. */
public final class EdgesOfBitsTest {
    private static final int BAD = LostRoom.BAD;

    public static void main(String[] args) {
        handsAndFolds();
        edges();
        tenBits();
        joinsByEdges();
        joinsByHandsAndFolds();
        joins();
        sheetsWithoutBits();
        sheets();
        sheetsAnew();
        firstRow();
        laid();
        tenLaid();
        laidOfAll();
        Check.end();
    }

    private static boolean in(int v, int low, int high) {
        return low <= v && v <= high;
    }

    private static void bit(String sentence, int hand, int fold, int left, int right) {
        boolean goes = in(hand, 1, 9) && in(fold, 0, 9) && in(left, 0, 999) && in(right, 0, 999);
        LostRoom x = new LostRoom();
        String call = Edge.said(sentence) + ": bit " + hand + " " + fold + " " + left + " " + right;
        Check.due(call, x.bit(hand, fold, left, right), goes ? 0 : BAD);
        Check.due(call + ", then bits", x.count(5), goes ? 1 : 0);
    }

    private static void handsAndFolds() {
        int[] some = {Integer.MIN_VALUE, -1, 0, 1, 2, 8, 9, 10, Integer.MAX_VALUE};
        for (int hand : some) for (int fold : some) bit("have a HAND (1 .. 9), a FOLD (0 .. 9)", hand, fold, 0, 999);
    }

    private static void edges() {
        int[] some = {Integer.MIN_VALUE, -1, 0, 1, 500, 998, 999, 1000, 1001, Integer.MAX_VALUE};
        for (int left : some) for (int right : some) bit("a left and a right edge (0 .. 999; 0: not torn)", 1, 0, left, right);
    }

    private static void tenBits() {
        Edge.of("A BIT: its number. BAD; FULL.", "bit 1 0 0 0 = 0", "bit 1 0 0 0 = 1", "bit 0 0 0 0 = BAD", "bit 1 0 0 0 = 2");
        Edge.of("BITS 0, 1, .. (10 at most)", "9 x bit 1 0 0 0", "bit 9 9 999 999 = 9", "count 5 = 10", "bit 1 0 0 0 = FULL",
            "bit 0 0 0 0 = BAD", "bit 10 0 0 0 = BAD", "bit 1 -1 0 0 = BAD", "bit 1 10 0 0 = BAD", "bit 1 0 -1 0 = BAD", "bit 1 0 1000 0 = BAD",
            "bit 1 0 0 -1 = BAD", "bit 1 0 0 1000 = BAD", "joins 9 0 = 0", "joins 10 0 = BAD", "joins 0 10 = BAD", "text 0 0 = 0",
            "book 0 = 0", "bit 1 0 0 0 = 0");
    }

    private static void joinsByEdges() {
        String sentence = "if the right edge of i and the left edge of j are 1000 together";
        int[] some = {0, 1, 2, 499, 500, 501, 998, 999};
        for (int right : some) for (int left : some) {
            LostRoom x = new LostRoom();
            x.bit(1, 0, 0, right);
            x.bit(1, 0, left, 0);
            String call = Edge.said(sentence) + ": " + right + " and " + left;
            Check.due(call, x.joins(0, 1), right + left == 1000 ? 1 : 0);
            Check.due(call + ", the other way", x.joins(1, 0), 0);
            Check.due(call + ", sheets", x.sheets(0), right + left == 1000 ? 1 : 2);
        }
        Edge.of("0: not torn", "bit 1 0 0 0 = 0", "bit 1 0 0 0 = 1", "bit 1 0 999 999 = 2", "bit 1 0 1 1 = 3", "joins 0 1 = 0",
            "joins 1 0 = 0", "joins 0 2 = 0", "joins 2 0 = 0", "joins 2 3 = 1", "joins 3 2 = 1");
    }

    private static void joinsByHandsAndFolds() {
        for (int hand = 1; hand <= 9; hand++) for (int fold = 0; fold <= 9; fold++) {
            LostRoom x = new LostRoom();
            x.bit(5, 5, 0, 300);
            x.bit(hand, fold, 700, 0);
            Check.due(Edge.said("HANDS and FOLDS alike") + ": " + hand + " " + fold, x.joins(0, 1), hand == 5 && fold == 5 ? 1 : 0);
        }
    }

    private static void joins() {
        String sentence = "Whether BIT i JOINS BIT j: 1, 0. BAD: also itself.";
        Edge.of(sentence, "joins 0 0 = BAD", "joins 0 1 = BAD", "bit 1 0 500 500 = 0", "joins 0 0 = BAD", "joins 0 1 = BAD", "joins 1 0 = BAD",
            "bit 1 0 500 500 = 1", "joins 0 1 = 1", "joins 1 0 = 1", "joins 0 0 = BAD", "joins 1 1 = BAD", "joins 2 0 = BAD", "joins 0 2 = BAD",
            "joins 2 2 = BAD", "joins -1 0 = BAD", "joins 0 -1 = BAD", "joins MOST 0 = BAD", "joins 0 MOST = BAD", "joins LEAST 0 = BAD",
            "joins 0 LEAST = BAD");
    }

    private static void sheetsWithoutBits() {
        Edge.of("(0 without BITS)", "ints 0 : 7 8", "sheets 0 = 0", "ints 0 is", "sheets 5 = 0", "ints 5 is", "bit 1 0 0 0 = 0", "sheets 0 = 1",
            "ints 0 is 0", "text 0 0 = 0", "book 0 = 0", "sheets 0 = 0", "ints 0 is", "sheets 6 = BAD", "sheets -1 = BAD", "sheets MOST = BAD",
            "sheets LEAST = BAD");
    }

    private static void sheets() {
        String sentence = "LAID side by side all BITS have as many SHEETS as there are places (and the first) at which one does not JOIN the next one.";
        Edge.of(sentence, "bit 1 0 500 500 = 0", "sheets 0 = 1", "bit 1 0 500 500 = 1", "sheets 0 = 1", "ints 0 is 0 1", "bit 1 1 500 500 = 2",
            "sheets 0 = 2", "ints 0 is 0 1 2", "bit 2 0 500 500 = 3", "sheets 0 = 3", "ints 0 is 0 1 2 3", "bit 1 0 500 500 = 4", "sheets 0 = 3",
            "ints 0 is 0 1 4 2 3", "laid = 36");
        // a round: each JOINS the next one, the last one the first
        Edge.of(sentence, "bit 1 0 200 100 = 0", "bit 1 0 900 300 = 1", "bit 1 0 700 800 = 2", "joins 0 1 = 1", "joins 1 2 = 1", "joins 2 0 = 1",
            "sheets 0 = 1", "ints 0 is 0 1 2", "laid = 3");
        // BITS of an earlier BOOK are no matter
        Edge.of(sentence, "bit 1 0 0 500 = 0", "bit 1 0 500 0 = 1", "sheets 0 = 1", "text 0 0 = 0", "book 0 = 0", "bit 1 0 0 0 = 0", "bit 1 0 0 0 = 1",
            "sheets 0 = 2", "laid = 2");
        // one way only: the second ahead of the first
        Edge.of(sentence, "bit 1 0 600 0 = 0", "bit 1 0 0 400 = 1", "joins 0 1 = 0", "joins 1 0 = 1", "sheets 0 = 1", "ints 0 is 1 0", "laid = 1");
    }

    private static void sheetsAnew() {
        Edge.of("the first such row (by places' BITS) comes to a ROW (anew). BAD.", "row 0 48 = 48", "bit 1 0 0 0 = 0", "bit 1 0 0 0 = 1",
            "sheets 0 = 2", "ints 0 is 0 1", "bit 1 0 0 0 = 2", "ints 0 is 0 1", "sheets 0 = 3", "ints 0 is 0 1 2", "ints 1 is missing",
            "sheets 5 = 3", "ints 5 is 0 1 2", "sheets -1 = BAD", "sheets 6 = BAD");
    }

    private static void firstRow() {
        String sentence = "the first such row (by places' BITS) comes to a ROW (anew)";
        Edge.of(sentence, "bit 1 0 0 500 = 0", "bit 1 0 0 500 = 1", "bit 1 0 500 0 = 2", "bit 1 0 500 0 = 3", "sheets 0 = 2", "ints 0 is 0 2 1 3",
            "laid = 4");
        Edge.of(sentence, "bit 1 0 0 0 = 0", "bit 1 0 500 0 = 1", "bit 1 0 0 500 = 2", "sheets 0 = 2", "ints 0 is 0 2 1", "laid = 2");
        Edge.of(sentence, "bit 1 0 500 0 = 0", "bit 1 0 0 0 = 1", "bit 1 0 0 500 = 2", "sheets 0 = 2", "ints 0 is 1 2 0", "laid = 2");
    }

    private static void laid() {
        Edge.of("In how many rows BITS are LAID with the fewest SHEETS (as an int).", "laid = 1", "bit 1 0 0 0 = 0", "laid = 1", "bit 1 0 0 0 = 1",
            "laid = 2", "bit 1 0 0 0 = 2", "laid = 6", "bit 1 0 0 0 = 3", "laid = 24", "bit 1 0 500 500 = 4", "laid = 120",
            "bit 1 0 500 500 = 5", "sheets 0 = 5", "laid = 240", "text 0 0 = 0", "book 0 = 0", "laid = 1");
    }

    private static void tenLaid() {
        String sentence = "In how many rows BITS are LAID with the fewest SHEETS (as an int).";
        Edge.of(sentence, "10 x bit 1 0 0 0", "laid = 3628800", "sheets 0 = 10", "ints 0 is 0 1 2 3 4 5 6 7 8 9");
        Edge.of(sentence, "10 x bit 1 0 500 500", "laid = 3628800", "sheets 0 = 1", "ints 0 is 0 1 2 3 4 5 6 7 8 9");
        Edge.of(sentence, "9 x bit 1 0 0 0", "laid = 362880", "sheets 0 = 9", "bit 1 0 0 500 = 9", "laid = 3628800", "sheets 0 = 10");
        List<String> steps = new ArrayList<>();
        for (int i = 0; i < 10; i++) steps.add("bit 1 0 " + (900 - 10 * i) + " " + (90 + 10 * i + 20) + " = " + i);
        steps.addAll(List.of("joins 0 1 = 1", "joins 9 0 = 0", "sheets 0 = 1", "laid = 1", "ints 0 is 0 1 2 3 4 5 6 7 8 9"));
        Edge.of(sentence, steps);
    }

    /** All of four BITS by few edges, by trying each row. */
    private static void laidOfAll() {
        int[] edges = {0, 400, 600};
        List<int[]> rows = new ArrayList<>();
        for (int row = 0; row < 256; row++) {
            int[] one = {row / 64, row / 16 % 4, row / 4 % 4, row % 4};
            if (((1 << one[0]) | (1 << one[1]) | (1 << one[2]) | (1 << one[3])) == 15) rows.add(one);
        }
        for (int code = 0; code < 6561; code += 7) {
            int[] torn = new int[8];
            for (int i = 0, rest = code; i < 8; i++, rest /= 3) torn[i] = edges[rest % 3];
            LostRoom x = new LostRoom();
            for (int i = 0; i < 4; i++) x.bit(1, 0, torn[2 * i], torn[2 * i + 1]);
            int fewest = 9;
            int all = 0;
            int[] first = {};
            for (int[] row : rows) {
                int begun = 1;
                for (int i = 1; i < 4; i++) if (torn[2 * row[i - 1] + 1] + torn[2 * row[i]] != 1000) begun++;
                if (begun < fewest) {
                    fewest = begun;
                    all = 0;
                    first = row;
                }
                if (begun == fewest) all++;
            }
            String call = Edge.said("The fewest SHEETS of all BITS LAID side by side") + ": code " + code;
            Check.due(call, x.sheets(0), fewest);
            Check.due(call + ", rows", x.laid(), all);
            Check.rowIs(x, call, 0, first);
        }
    }
}
