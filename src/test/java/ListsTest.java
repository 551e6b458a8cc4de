/** Promises 32 to 34: line, readings, lineOf. */
public final class ListsTest {
    private static final int BAD = LostRoom.BAD, FULL = LostRoom.FULL;

    public static void main(String[] args) {
        line();
        readings();
        byYears();
        eight();
        Check.end();
    }

    private static void line() {
        LostRoom x = new LostRoom();
        int[][] wrong = {{-1, 0, 9}, {21, 0, 9}, {0, -1, 9}, {0, 0, 100}, {0, 9, 8}, {0, 100, 100}};
        for (int[] w : wrong) Check.due("line " + w[0] + " " + w[1] + " " + w[2], x.line(w[0], w[1], w[2]), BAD);
        Check.due("no lines", x.count(4), 0);
        Check.due("lineOf 0 of none", x.lineOf(0), BAD);
        Check.due("line 0", x.line(0, 0, 0), 0);
        Check.due("line 1", x.line(20, 99, 99), 1);
        for (int i = 2; i < 8; i++) Check.due("line " + i, x.line(1, 0, 99), i);
        Check.due("line 8", x.line(1, 0, 99), FULL);
        Check.due("BAD is ahead of FULL", x.line(21, 0, 99), BAD);
        Check.due("eight lines", x.count(4), 8);
        Check.due("lineOf 8", x.lineOf(8), BAD);
        Check.due("lineOf -1", x.lineOf(-1), BAD);
        Check.due("lineOf 7 without trunks", x.lineOf(7), 0);
    }

    private static void readings() {
        LostRoom x = Check.roomBy("k1111^0 k1111^0 k1111^0 k1111^0");
        Check.due("one reading without lines", x.readings(), 1);
        for (int i = 0; i < 4; i++) x.thing(5, 10 * i, 10 * i + 5, 1111, 0);
        x.lies(0, 0, false);
        x.lies(1, 0, true);
        x.lies(2, 1, false);
        x.lies(3, 2, false);
        x.line(1, 0, 99);
        Check.due("one of a trunk with one", x.readings(), 2);
        Check.due("those", x.lineOf(0), 6);
        x.line(1, 0, 20);
        Check.due("the other one is due", x.readings(), 1);
        Check.due("line 0 has 2", x.lineOf(0), 4);
        Check.due("line 1 has 1", x.lineOf(1), 2);
        x.line(0, 50, 50);
        Check.due("an empty trunk meets any years", x.readings(), 1);
        Check.due("it is 3", x.lineOf(2), 8);
        x.line(2, 0, 9);
        Check.due("a thing of the two is later", x.readings(), 0);
        Check.due("so no line has any", x.lineOf(0) + x.lineOf(1) + x.lineOf(2) + x.lineOf(3), 0);
        x.lies(1, 3, false);
        Check.due("nor if none is empty", x.readings(), 0);
        Check.due("readings tell nothing", x.asked(), 0);
    }

    private static void byYears() {
        LostRoom x = Check.roomBy("k1111^0 k1111^0");
        x.thing(5, 10, 20, 1111, 0);
        x.thing(5, 30, 40, 1111, 0);
        x.lies(0, 0, false);
        x.lies(1, 0, false);
        int[][] years = {{20, 30, 1}, {21, 30, 0}, {20, 29, 0}, {0, 99, 1}, {40, 99, 0}, {15, 35, 1}, {0, 10, 0}};
        for (int i = 0; i < years.length; i++) {
            x.line(2, years[i][0], years[i][1]);
            Check.due("years " + years[i][0] + " to " + years[i][1], x.readings(), years[i][2]);
            Check.due("line has " + i, x.lineOf(0), years[i][2]);
            x.book(0);
            x.thing(5, 10, 20, 1111, 0);
            x.thing(5, 30, 40, 1111, 0);
            x.lies(0, 0, false);
            x.lies(1, 0, false);
        }
        LostRoom y = Check.roomBy("k1111^0 k1111^0");
        y.line(0, 0, 9);
        y.line(0, 0, 9);
        y.line(0, 0, 9);
        Check.due("three lines, two trunks", y.readings(), 0);
        Check.due("no line has one", y.lineOf(1), 0);
    }

    private static void eight() {
        LostRoom x = Check.roomBy("k1111^0k1111^0k1111^0k1111^0k1111^0k1111^0k1111^0k1111^0");
        for (int i = 0; i < 8; i++) x.line(0, 0, 9);
        Check.due("eight lines, eight trunks", x.readings(), 40320);
        for (int i = 0; i < 8; i++) Check.due("line " + i + " has any", x.lineOf(i), 255);
    }
}
