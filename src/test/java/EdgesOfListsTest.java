import java.util.ArrayList;
import java.util.List;

/** The edges of promises 32 to 34, sentence by sentence: LINES of a LIST, READINGS. */
public final class EdgesOfListsTest {
    private static final int BAD = LostRoom.BAD;

    public static void main(String[] args) {
        line();
        eightLines();
        asMany();
        upToTwenty();
        yearsMeet();
        yearsOfEach();
        noTwoTheSame();
        withoutLines();
        lineOf();
        readingsOfAll();
        Check.end();
    }

    private static boolean in(int v, int low, int high) {
        return low <= v && v <= high;
    }

    private static void line() {
        String sentence = "how many THINGS (0 .. 20), from year a to b";
        int[] sizes = {Integer.MIN_VALUE, -1, 0, 1, 19, 20, 21, Integer.MAX_VALUE};
        int[] years = {Integer.MIN_VALUE, -1, 0, 1, 98, 99, 100, Integer.MAX_VALUE};
        for (int n : sizes) for (int a : years) for (int b : years) {
            LostRoom x = new LostRoom();
            boolean goes = in(n, 0, 20) && in(a, 0, 99) && in(b, 0, 99) && a <= b;
            String call = Edge.said(sentence) + ": line " + n + " " + a + " " + b;
            Check.due(call, x.line(n, a, b), goes ? 0 : BAD);
            Check.due(call + ", then lines", x.count(4), goes ? 1 : 0);
        }
        Edge.of("A LINE of the LIST: its number. BAD; FULL.", "line 21 0 9 = BAD", "line -1 0 9 = BAD", "line 0 9 8 = BAD", "line 0 9 9 = 0",
            "line 20 0 0 = 1", "line 0 99 99 = 2");
    }

    private static void eightLines() {
        Edge.of("A LIST has LINES (8 at most)", "7 x line 0 0 9", "line 0 0 9 = 7", "count 4 = 8", "line 0 0 9 = FULL", "line 20 99 99 = FULL",
            "line 21 0 9 = BAD", "line -1 0 9 = BAD", "line 0 9 8 = BAD", "line 0 -1 9 = BAD", "line 0 0 100 = BAD", "count 4 = 8",
            "lineOf 7 = 0", "lineOf 8 = BAD", "text 0 0 = 0", "book 0 = 0", "count 4 = 0", "line 0 0 9 = 0");
    }

    private static void asMany() {
        String sentence = "A LINE FITS a TRUNK, if as many lie in it, and the years of each meet it.";
        for (int n = 0; n <= 3; n++) {
            List<String> steps = new ArrayList<>(List.of("house 'k1111^0'", "3 x thing 5 0 9 1111 0", "line " + n + " 0 9 = 0",
                "readings = " + (n == 0 ? 1 : 0), "lineOf 0 = " + (n == 0 ? 1 : 0)));
            for (int i = 0; i < 3; i++) {
                steps.add("lies " + i + " 0 " + (i == 1) + " = 1");
                steps.add("readings = " + (n == i + 1 ? 1 : 0));
                steps.add("lineOf 0 = " + (n == i + 1 ? 1 : 0));
            }
            steps.add("lies 1 NONE false = 1");
            steps.add("lineOf 0 = " + (n == 2 ? 1 : 0));
            Edge.of(sentence, steps);
        }
        Edge.of(sentence, "house 'k1111^0k1111^0'", "thing 5 0 9 1111 0 = 0", "thing 5 0 9 1111 0 = 1", "line 1 0 9 = 0", "lineOf 0 = 0",
            "lies 0 1 false = 1", "lineOf 0 = 2", "lies 1 1 false = 1", "lineOf 0 = 0", "lies 0 0 false = 1", "lineOf 0 = 3", "readings = 2");
    }

    private static void upToTwenty() {
        List<String> steps = new ArrayList<>(List.of("house 'k1111^0'", "20 x thing 5 0 9 1111 0"));
        for (int i = 0; i < 20; i++) steps.add("1 x lies " + i + " 0 false");
        steps.addAll(List.of("line 20 0 9 = 0", "readings = 1", "lineOf 0 = 1", "lies 7 NONE false = 1", "readings = 0", "lineOf 0 = 0",
            "lies 7 0 true = 1", "lineOf 0 = 1", "line 19 0 9 = 1", "readings = 0", "lineOf 0 = 0", "lineOf 1 = 0"));
        Edge.of("how many THINGS (0 .. 20)", steps);
    }

    private static void yearsMeet() {
        for (int a = 8; a <= 22; a++) for (int b = a; b <= 22; b++) {
            boolean meet = false;
            for (int year = 10; year <= 20; year++) meet |= in(year, a, b);
            LostRoom x = Check.roomBy("k1111^0");
            x.thing(5, 10, 20, 1111, 0);
            x.lies(0, 0, false);
            x.line(1, a, b);
            Check.due(Edge.said("the years of each meet it") + ": " + a + " to " + b, x.readings(), meet ? 1 : 0);
            Check.due(Edge.said("the years of each meet it") + ": line of " + a + " to " + b, x.lineOf(0), meet ? 1 : 0);
        }
        Edge.of("the years of each meet it", "house 'k1111^0k1111^0'", "thing 5 0 0 1111 0 = 0", "thing 5 99 99 1111 0 = 1",
            "lies 0 0 false = 1", "lies 1 1 false = 1", "line 1 0 0 = 0", "lineOf 0 = 1", "line 1 99 99 = 1", "lineOf 1 = 2", "readings = 1",
            "line 1 1 98 = 2", "lineOf 2 = 0", "readings = 0");
        Edge.of("the years of each meet it", "house 'k1111^0'", "thing 5 50 50 1111 0 = 0", "line 0 0 0 = 0", "lineOf 0 = 1");
    }

    /** Two THINGS in a TRUNK: a LINE meets the years of each, the first and the second. */
    private static void yearsOfEach() {
        for (int a = 9; a <= 32; a++) for (int b : new int[] {a, 19, 20, 21, 29, 30, 31}) {
            if (b < a) continue;
            boolean goes = a <= 20 && b >= 30;
            for (int first = 0; first < 2; first++) {
                LostRoom x = Check.roomBy("k1111^0");
                x.thing(5, first == 0 ? 10 : 30, first == 0 ? 20 : 40, 1111, 0);
                x.thing(5, first == 0 ? 30 : 10, first == 0 ? 40 : 20, 1111, 0);
                x.lies(0, 0, false);
                x.lies(1, 0, true);
                x.line(2, a, b);
                Check.due(Edge.said("the years of each meet it") + ": two, " + a + " to " + b, x.lineOf(0), goes ? 1 : 0);
            }
        }
    }

    private static void noTwoTheSame() {
        String sentence = "A READING of the LIST gives each LINE a TRUNK that it FITS, no two the same one.";
        for (int trunks = 0; trunks <= 8; trunks++) {
            int all = 1;
            for (int lines = 1; lines <= 8; lines++) {
                all *= Math.max(0, trunks - lines + 1);
                Edge.of(sentence, "house '" + "k1111^0".repeat(trunks) + "'", lines + " x line 0 0 9", "readings = " + all,
                    "lineOf 0 = " + (all > 0 ? (1 << trunks) - 1 : 0), "lineOf " + (lines - 1) + " = " + (all > 0 ? (1 << trunks) - 1 : 0));
            }
        }
        Edge.of(sentence, "house 'k1111^0k1111^0k1111^0'", "thing 5 0 9 1111 0 = 0", "lies 0 0 false = 1", "line 1 0 9 = 0", "readings = 1",
            "line 0 0 9 = 1", "readings = 2", "lineOf 0 = 1", "lineOf 1 = 6", "line 0 0 9 = 2", "readings = 2", "lineOf 2 = 6",
            "line 0 0 9 = 3", "readings = 0", "lineOf 0 = 0", "lineOf 3 = 0");
    }

    private static void withoutLines() {
        Edge.of("How many READINGS of the LIST there are (as an int). (Without LINES one.)", "readings = 1", "house 'k1111^0'", "readings = 1",
            "thing 5 0 9 1111 0 = 0", "lies 0 0 false = 1", "readings = 1", "line 1 10 10 = 0", "readings = 0", "book 3 = 1", "readings = 1");
        Edge.of("How many READINGS of the LIST there are (as an int). (Without LINES one.)", "line 0 0 9 = 0", "readings = 0", "lineOf 0 = 0");
    }

    private static void lineOf() {
        Edge.of("TRUNKS (bits) that a LINE has in some READING. BAD.", "lineOf 0 = BAD", "line 0 0 9 = 0", "lineOf 0 = 0", "lineOf 1 = BAD",
            "lineOf -1 = BAD", "lineOf MOST = BAD", "lineOf LEAST = BAD", "lineOf 8 = BAD");
        // a LINE that FITS both, but one of them is due to the other LINE
        Edge.of("TRUNKS (bits) that a LINE has in some READING. BAD.", "house 'k1111^0k1111^0'", "thing 5 0 9 1111 0 = 0",
            "thing 5 20 29 1111 0 = 1", "lies 0 0 false = 1", "lies 1 1 false = 1", "line 1 0 99 = 0", "lineOf 0 = 3", "line 1 20 20 = 1",
            "lineOf 0 = 1", "lineOf 1 = 2", "readings = 1", "line 1 0 99 = 2", "lineOf 0 = 0", "lineOf 1 = 0", "lineOf 2 = 0");
    }

    /** Each way in which three LINES could FIT three TRUNKS, by trying each row: a TRUNK's years are its number's alone. */
    private static void readingsOfAll() {
        int[][] years = {{10, 10}, {20, 20}, {30, 30}, {10, 20}, {20, 30}, {10, 30}, {0, 9}};
        for (int[] one : years) for (int[] two : years) for (int[] three : years) {
            int[][] lines = {one, two, three};
            LostRoom x = Check.roomBy("k1111^0k1111^0k1111^0");
            for (int i = 0; i < 3; i++) {
                x.thing(5, 10 * i + 10, 10 * i + 10, 1111, 0);
                x.lies(i, i, false);
                x.line(1, lines[i][0], lines[i][1]);
            }
            int all = 0;
            int[] some = new int[3];
            for (int row = 0; row < 27; row++) {
                int[] given = {row / 9, row / 3 % 3, row % 3};
                boolean goes = given[0] != given[1] && given[0] != given[2] && given[1] != given[2];
                for (int l = 0; l < 3; l++) goes &= in(10 * given[l] + 10, lines[l][0], lines[l][1]);
                if (!goes) continue;
                all++;
                for (int l = 0; l < 3; l++) some[l] |= 1 << given[l];
            }
            String call = Edge.said("A READING of the LIST gives each LINE a TRUNK that it FITS");
            Check.due(call + ": three lines", x.readings(), all);
            for (int l = 0; l < 3; l++) Check.due(call + ": line " + l + " of three", x.lineOf(l), some[l]);
        }
    }
}
