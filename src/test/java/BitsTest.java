/** Promises 35 to 38: bit, joins, sheets, laid. */
public final class BitsTest {
    private static final int BAD = LostRoom.BAD, FULL = LostRoom.FULL;

    public static void main(String[] args) {
        bit();
        joins();
        sheets();
        firstRow();
        afterBooks();
        ten();
        Check.end();
    }

    private static void bit() {
        LostRoom x = new LostRoom();
        int[][] wrong = {{0, 0, 0, 0}, {10, 0, 0, 0}, {1, -1, 0, 0}, {1, 10, 0, 0}, {1, 0, -1, 0}, {1, 0, 1000, 0}, {1, 0, 0, -1}, {1, 0, 0, 1000}};
        for (int[] w : wrong) Check.due("bit " + w[0] + " " + w[1] + " " + w[2] + " " + w[3], x.bit(w[0], w[1], w[2], w[3]), BAD);
        Check.due("no bits", x.count(5), 0);
        Check.due("bit 0", x.bit(1, 0, 0, 0), 0);
        Check.due("bit 1", x.bit(9, 9, 999, 999), 1);
        for (int i = 2; i < 10; i++) Check.due("bit " + i, x.bit(1, 0, 0, 0), i);
        Check.due("bit 10", x.bit(1, 0, 0, 0), FULL);
        Check.due("BAD is ahead of FULL", x.bit(0, 0, 0, 0), BAD);
        Check.due("ten bits", x.count(5), 10);
    }

    private static void joins() {
        LostRoom x = new LostRoom();
        x.bit(1, 2, 0, 300);
        x.bit(1, 2, 700, 999);
        x.bit(1, 3, 700, 0);
        x.bit(2, 2, 700, 0);
        x.bit(1, 2, 1, 0);
        Check.due("joins 0 1", x.joins(0, 1), 1);
        Check.due("joins 1 0", x.joins(1, 0), 0);
        Check.due("unlike folds", x.joins(0, 2), 0);
        Check.due("unlike hands", x.joins(0, 3), 0);
        Check.due("999 and 1", x.joins(1, 4), 1);
        Check.due("not torn", x.joins(4, 0), 0);
        Check.due("itself", x.joins(0, 0), BAD);
        Check.due("joins 0 5", x.joins(0, 5), BAD);
        Check.due("joins 5 0", x.joins(5, 0), BAD);
        Check.due("joins 0 -1", x.joins(0, -1), BAD);
        Check.due("joins -1 0", x.joins(-1, 0), BAD);
        Check.due("nothing told", x.asked(), 0);
    }

    private static void sheets() {
        LostRoom x = new LostRoom();
        Check.row(x, 0, 7);
        Check.due("sheets of none", x.sheets(0), 0);
        Check.rowIs(x, "sheets of none", 0);
        Check.due("laid of none", x.laid(), 1);
        Check.due("sheets 6", x.sheets(6), BAD);
        Check.due("sheets -1", x.sheets(-1), BAD);
        x.bit(1, 1, 500, 500);
        Check.due("sheets of one", x.sheets(5), 1);
        Check.rowIs(x, "sheets of one", 5, 0);
        Check.due("laid of one", x.laid(), 1);
        x.bit(1, 1, 400, 300);
        Check.due("sheets of two apart", x.sheets(5), 2);
        Check.due("two that do not join", x.joins(0, 1) + x.joins(1, 0), 0);
        Check.due("laid either way", x.laid(), 2);
        x.bit(1, 1, 500, 600);
        Check.due("0 joins 2, 2 joins 1: one sheet", x.sheets(5), 1);
        Check.rowIs(x, "one sheet", 5, 0, 2, 1);
        Check.due("laid in one row", x.laid(), 1);
        Check.due("sheets tell nothing", x.asked(), 1);
    }

    private static void firstRow() {
        LostRoom x = new LostRoom();
        x.bit(1, 1, 200, 0);
        x.bit(1, 1, 0, 800);
        x.bit(1, 1, 0, 0);
        Check.due("two sheets", x.sheets(0), 2);
        Check.rowIs(x, "two sheets", 0, 1, 0, 2);
        Check.due("two rows", x.laid(), 2);
        LostRoom round = new LostRoom();
        round.bit(1, 1, 500, 400);
        round.bit(1, 1, 600, 300);
        round.bit(1, 1, 700, 500);
        Check.due("a round of three", round.sheets(0), 1);
        Check.rowIs(round, "a round of three", 0, 0, 1, 2);
        Check.due("three rows", round.laid(), 3);
        LostRoom wide = new LostRoom();
        wide.bit(1, 1, 0, 500);
        wide.bit(1, 1, 500, 0);
        wide.bit(1, 1, 500, 500);
        wide.bit(1, 1, 0, 500);
        Check.due("two sheets of four", wide.sheets(0), 2);
        Check.rowIs(wide, "two sheets of four", 0, 0, 1, 3, 2);
        Check.due("rows of four", wide.laid(), 8);
    }

    private static void afterBooks() {
        LostRoom x = new LostRoom();
        x.bit(1, 1, 0, 500);
        x.bit(1, 1, 500, 0);
        Check.due("laid first", x.laid(), 1);
        x.text(0, 0);
        x.book(0);
        Check.due("laid of none", x.laid(), 1);
        x.bit(1, 1, 0, 0);
        x.bit(1, 1, 0, 0);
        Check.due("laid of the new ones", x.laid(), 2);
        Check.due("sheets of the new ones", x.sheets(0), 2);
        x.bit(1, 1, 0, 0);
        Check.due("one more", x.laid(), 6);
    }

    private static void ten() {
        LostRoom x = new LostRoom();
        for (int i = 0; i < 10; i++) x.bit(1, 0, 0, 0);
        Check.due("ten sheets", x.sheets(0), 10);
        Check.rowIs(x, "ten sheets", 0, 0, 1, 2, 3, 4, 5, 6, 7, 8, 9);
        Check.due("laid in any row", x.laid(), 3628800);
        LostRoom y = new LostRoom();
        for (int i = 0; i < 10; i++) y.bit(1, 0, 500, 500);
        Check.due("all join", y.sheets(0), 1);
        Check.due("laid in any row as one", y.laid(), 3628800);
        LostRoom z = new LostRoom();
        for (int i = 9; i >= 0; i--) z.bit(1, 0, 100 + i, 1000 - 101 - i);
        Check.due("a chain", z.sheets(0), 1);
        Check.rowIs(z, "a chain", 0, 9, 8, 7, 6, 5, 4, 3, 2, 1, 0);
        Check.due("laid in one row", z.laid(), 1);
    }
}
