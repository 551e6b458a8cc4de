/** Promises 1 to 9: a new object; row, lay, at, tear, copy, mean, text, put. */
public final class RowsTest {
    private static final int BAD = LostRoom.BAD, FINDING = LostRoom.FINDING;
    private static final int LEAST = Integer.MIN_VALUE, MOST = Integer.MAX_VALUE;

    public static void main(String[] args) {
        fresh();
        row();
        layAndAt();
        tear();
        copy();
        copyRefused();
        mean();
        text();
        put();
        Check.end();
    }

    private static void fresh() {
        LostRoom x = new LostRoom();
        for (int what = 0; what <= 8; what++) Check.due("new: count " + what, x.count(what), 0);
        Check.due("new: asked", x.asked(), 0);
        Check.due("new: many", x.many(), 0);
        Check.due("new: finding", x.finding(), 0);
        for (int f = 1; f <= 5; f++) Check.due("new: findings " + f, x.findings(f), 0);
        Check.due("new: wear", x.wear(1), 1);
        for (int r = 0; r < 6; r++) Check.rowMissing(x, "new", r);
        for (int t = 0; t < 4; t++) Check.due("new: fault " + t, x.fault(t), FINDING);
    }

    private static void row() {
        LostRoom x = new LostRoom();
        Check.due("row 0 0", x.row(0, 0), 0);
        Check.due("row 5 48", x.row(5, 48), 48);
        Check.tells(x, "last place", x.at(5, 47), 0);
        Check.due("row 5 49", x.row(5, 49), BAD);
        Check.due("row 6", x.row(6, 1), BAD);
        Check.due("row -1", x.row(-1, 1), BAD);
        Check.due("row 6 -1 is BAD first", x.row(6, -1), BAD);
        Check.due("no finding by BAD", x.finding(), 0);
        Check.finds(x, "row 0 -1", 0, x.row(0, -1), 5);
        Check.finds(x, "row 0 least", 1, x.row(0, LEAST), 5);
        Check.due("row 0 most", x.row(0, MOST), BAD);
        Check.tells(x, "refused rows left the old one", x.at(5, 47), 0);
        x.lay(5, 3, 7);
        Check.due("row again", x.row(5, 4), 4);
        Check.rowIs(x, "a row anew is of 0", 5, 0, 0, 0, 0);
    }

    private static void layAndAt() {
        LostRoom x = new LostRoom();
        Check.due("lay r 6", x.lay(6, 0, 1), BAD);
        Check.due("lay r -1", x.lay(-1, 0, 1), BAD);
        Check.due("at r 6", x.at(6, 0), BAD);
        Check.due("at r -1", x.at(-1, 0), BAD);
        Check.finds(x, "lay missing", 0, x.lay(2, -1, 1), 1);
        Check.finds(x, "at missing", 1, x.at(2, 99), 1);
        x.row(2, 3);
        Check.tells(x, "lay first", x.lay(2, 0, MOST), 0);
        Check.tells(x, "lay first again", x.lay(2, 0, LEAST), MOST);
        Check.tells(x, "lay last", x.lay(2, 2, -5), 0);
        Check.tells(x, "at first", x.at(2, 0), LEAST);
        Check.tells(x, "at last", x.at(2, 2), -5);
        Check.finds(x, "lay beyond", 0, x.lay(2, 3, 1), 2);
        Check.finds(x, "lay below", 1, x.lay(2, -1, 1), 2);
        Check.finds(x, "at beyond", 2, x.at(2, 3), 2);
        Check.finds(x, "at below", 3, x.at(2, -1), 2);
        Check.due("refused leaves asked", x.asked(), -5);
        Check.rowIs(x, "lay", 2, LEAST, 0, -5);
    }

    private static void tear() {
        LostRoom x = new LostRoom();
        Check.due("tear 6", x.tear(6), BAD);
        Check.due("tear -1", x.tear(-1), BAD);
        Check.finds(x, "tear missing", 0, x.tear(0), 1);
        x.row(0, 0);
        x.row(1, 2);
        Check.due("tear", x.tear(0), 1);
        Check.rowMissing(x, "tear", 0);
        Check.due("rows there", x.count(7), 1);
        Check.finds(x, "tear again", 2, x.tear(0), 1);
    }

    private static void copy() {
        LostRoom x = new LostRoom();
        Check.row(x, 0, 1, 2, 3, 4, 5);
        Check.row(x, 1, 6, 7, 8);
        Check.due("copy", x.copy(0, 3, 1, 1, 2), 1);
        Check.rowIs(x, "copy", 1, 6, 4, 5);
        Check.rowIs(x, "copy leaves its source", 0, 1, 2, 3, 4, 5);
        Check.due("copy on itself upwards", x.copy(0, 0, 0, 1, 4), 1);
        Check.rowIs(x, "copy upwards", 0, 1, 1, 2, 3, 4);
        Check.due("copy on itself downwards", x.copy(0, 2, 0, 0, 3), 1);
        Check.rowIs(x, "copy downwards", 0, 2, 3, 4, 3, 4);
        Check.due("copy none at the ends", x.copy(0, 5, 1, 3, 0), 1);
        Check.due("copy all", x.copy(1, 0, 1, 0, 3), 1);
        Check.rowIs(x, "copy all", 1, 6, 4, 5);
        Check.due("copy leaves asked", x.at(0, 0), 1);
        x.copy(0, 1, 1, 0, 1);
        Check.due("copy tells nothing", x.asked(), 2);
    }

    private static void copyRefused() {
        LostRoom x = new LostRoom();
        Check.row(x, 0, 1, 2, 3);
        Check.row(x, 1, 4, 5);
        Check.due("copy from 6", x.copy(6, 0, 1, 0, -1), BAD);
        Check.due("copy to 6", x.copy(0, 0, 6, 0, -1), BAD);
        Check.due("copy from -1", x.copy(-1, 0, 1, 0, 1), BAD);
        Check.due("copy to -1", x.copy(0, 0, -1, 0, 1), BAD);
        Check.finds(x, "copy fewer than none, of a missing row", 0, x.copy(2, 0, 3, 0, -1), 5);
        Check.finds(x, "copy of a missing row", 0, x.copy(2, -1, 1, 0, 1), 1);
        Check.finds(x, "copy to a missing row", 1, x.copy(0, -1, 2, 0, 1), 1);
        Check.finds(x, "copy too many of it", 0, x.copy(0, 2, 1, 0, 2), 2);
        Check.finds(x, "copy too many to it", 1, x.copy(0, 0, 1, 1, 2), 2);
        Check.finds(x, "copy none from below", 2, x.copy(0, -1, 1, 0, 0), 2);
        Check.finds(x, "copy none to below", 3, x.copy(0, 0, 1, -1, 0), 2);
        Check.finds(x, "copy none from above", 4, x.copy(0, 4, 1, 0, 0), 2);
        Check.finds(x, "copy none to above", 5, x.copy(0, 0, 1, 3, 0), 2);
        Check.finds(x, "copy most", 6, x.copy(0, 1, 1, 1, MOST), 2);
        Check.finds(x, "copy at most", 7, x.copy(0, MOST, 1, 0, 1), 2);
        Check.finds(x, "copy to most", 8, x.copy(0, 0, 1, MOST, 1), 2);
        Check.rowIs(x, "copy refused", 0, 1, 2, 3);
        Check.rowIs(x, "copy refused", 1, 4, 5);
    }

    private static void mean() {
        LostRoom x = new LostRoom();
        Check.due("mean 6", x.mean(6), BAD);
        Check.due("mean -1", x.mean(-1), BAD);
        Check.finds(x, "mean missing", 0, x.mean(0), 1);
        x.row(0, 0);
        Check.finds(x, "mean of none", 0, x.mean(0), 4);
        Check.row(x, 0, 1, 2, 4);
        Check.tells(x, "mean is cut", x.mean(0), 2);
        Check.row(x, 0, -1, -2, -4);
        Check.tells(x, "mean below 0 is cut", x.mean(0), -2);
        Check.row(x, 0, MOST, MOST, MOST);
        Check.tells(x, "mean of most", x.mean(0), MOST);
        Check.row(x, 0, LEAST, LEAST);
        Check.tells(x, "mean of least", x.mean(0), LEAST);
        x.row(1, 0);
        x.mean(1);
        Check.due("refused mean leaves asked", x.asked(), LEAST);
    }

    private static void text() {
        LostRoom x = new LostRoom();
        Check.due("text 0 0", x.text(0, 0), 0);
        Check.due("text 3 120", x.text(3, 120), 120);
        Check.due("texts there", x.count(8), 2);
        Check.due("text 0 121", x.text(0, 121), BAD);
        Check.due("text 4", x.text(4, 1), BAD);
        Check.due("text -1", x.text(-1, 1), BAD);
        Check.due("text 4 -1 is BAD first", x.text(4, -1), BAD);
        Check.finds(x, "text fewer than none", 0, x.text(1, -1), 5);
        Check.due("texts there still", x.count(8), 2);
        Check.due("first is blank", x.put(3, 0, 1), 1032);
        Check.due("last is blank", x.put(3, 119, 1), 1032);
        x.text(3, 1);
        Check.due("anew is blank", x.put(3, 0, 1), 1032);
    }

    private static void put() {
        LostRoom x = new LostRoom();
        Check.due("put 4", x.put(4, 0, 1), BAD);
        Check.due("put -1", x.put(-1, 0, 1), BAD);
        Check.finds(x, "put missing", 0, x.put(0, 0, 1), 1);
        x.text(0, 2);
        Check.finds(x, "put beyond", 0, x.put(0, 2, 1), 2);
        Check.finds(x, "put below", 1, x.put(0, -1, 1), 2);
        Check.due("put", x.put(0, 1, 127), 1032);
        Check.due("put 128", x.put(0, 1, 128), 1127);
        Check.due("it was cut", x.put(0, 1, -129), 872);
        Check.due("it was cut from below", x.put(0, 1, 256), 1127);
        Check.due("to nought", x.put(0, 1, 0), 1000);
        Check.due("the other stays", x.put(0, 0, 0), 1032);
        Check.due("put tells nothing", x.asked(), 0);
    }
}
