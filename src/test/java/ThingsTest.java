/** Promises 15 to 18: thing, lies, told, mark. */
public final class ThingsTest {
    private static final int BAD = LostRoom.BAD, FULL = LostRoom.FULL, NONE = LostRoom.NONE;
    private static final String HOUSE = "l10-20s3t4h5 l15-30s5t6h7 k1234^5 k2222^3";

    public static void main(String[] args) {
        thing();
        thingRefused();
        twenty();
        lies();
        told();
        mark();
        Check.end();
    }

    private static void thing() {
        LostRoom x = Check.roomBy(HOUSE);
        int n = 0;
        Check.due("cloth 1", x.thing(1, 0, 0, 1, -7), n++);
        Check.due("cloth 9", x.thing(1, 99, 99, 9, 77), n++);
        Check.due("letter not to be read", x.thing(2, 0, 99, 0, 1), n++);
        Check.due("letter 9 9", x.thing(2, 0, 99, 9, 9), n++);
        Check.due("named of town 0", x.thing(3, 0, 99, 1, 0), n++);
        Check.due("named 99", x.thing(3, 0, 99, 99, 1), n++);
        Check.due("ticket 1 9", x.thing(4, 0, 99, 1, 9), n++);
        Check.due("ticket 9 1", x.thing(4, 0, 99, 9, 1), n++);
        Check.due("key 1111", x.thing(5, 0, 99, 1111, -1), n++);
        Check.due("key 5555", x.thing(5, 0, 99, 5555, 99), n++);
        Check.due("things", x.count(2), n);
        Check.due("thing tells nothing", x.asked(), 0);
        LostRoom bare = new LostRoom();
        Check.due("a thing without a book", bare.thing(1, 5, 6, 5, 0), 0);
    }

    private static void thingRefused() {
        LostRoom x = Check.roomBy(HOUSE);
        int[][] wrong = {
            {0, 0, 9, 1, 1}, {6, 0, 9, 1111, 1}, {-1, 0, 9, 1, 1}, {1, 9, 8, 1, 1}, {1, -1, 9, 1, 1}, {1, 0, 100, 1, 1},
            {1, 100, 100, 1, 1}, {1, 0, 9, 0, 1}, {1, 0, 9, 10, 1}, {2, 0, 9, -1, 1}, {2, 0, 9, 10, 1}, {2, 0, 9, 1, 0},
            {2, 0, 9, 1, 10}, {3, 0, 9, 0, 0}, {3, 0, 9, 10, 0}, {3, 0, 9, 90, 0}, {3, 0, 9, 100, 0}, {3, 0, 9, 101, 0},
            {3, 0, 9, -1, 0}, {3, 0, 9, -9, 0}, {3, 0, 9, 11, -1}, {3, 0, 9, 11, 2}, {4, 0, 9, 0, 1}, {4, 0, 9, 1, 0},
            {4, 0, 9, 10, 1}, {4, 0, 9, 1, 10}, {4, 0, 9, 4, 4}, {5, 0, 9, 1110, 1}, {5, 0, 9, 1116, 1}, {5, 0, 9, 1161, 1},
            {5, 0, 9, 1611, 1}, {5, 0, 9, 6111, 1}, {5, 0, 9, 1101, 1}, {5, 0, 9, 1011, 1}, {5, 0, 9, 2011, 1}, {5, 0, 9, 2101, 1}, {5, 0, 9, 2110, 1}, {5, 0, 9, 111, 1},
            {5, 0, 9, 11111, 1}, {5, 0, 9, 0, 1}, {5, 0, 9, -1111, 1}, {5, 0, 9, Integer.MIN_VALUE, 1}};
        for (int[] w : wrong) {
            String call = "thing " + w[0] + " " + w[1] + " " + w[2] + " " + w[3] + " " + w[4];
            Check.due(call, x.thing(w[0], w[1], w[2], w[3], w[4]), BAD);
        }
        Check.due("nothing came of it", x.count(2), 0);
        Check.due("no finding", x.finding(), 0);
    }

    private static void twenty() {
        LostRoom x = Check.roomBy(HOUSE);
        for (int i = 0; i < 20; i++) Check.due("thing " + i, x.thing(1 + i % 2, 0, 50, 3, 4), i);
        Check.due("thing 20", x.thing(1, 0, 50, 3, 4), FULL);
        Check.due("BAD is ahead of FULL", x.thing(1, 0, 50, 0, 4), BAD);
        Check.due("BAD is ahead of FULL by a lodger", x.thing(3, 0, 50, 11, 5), BAD);
        Check.due("twenty", x.count(2), 20);
        Check.tells(x, "the last one", x.told(19, 0), 2);
        Check.due("journey of all", x.journey((1 << 20) - 1), 1);
        Check.due("journey of more", x.journey(1 << 20), BAD);
    }

    private static void lies() {
        LostRoom x = Check.roomBy(HOUSE);
        x.thing(1, 0, 50, 3, 4);
        x.thing(1, 0, 50, 3, 4);
        Check.tells(x, "on the floor at first", x.told(0, 3), NONE);
        Check.tells(x, "dry at first", x.told(0, 4), 0);
        Check.due("lies", x.lies(0, 1, true), 1);
        Check.tells(x, "in 1", x.told(0, 3), 1);
        Check.tells(x, "wet", x.told(0, 4), 1);
        Check.tells(x, "the other one stays", x.told(1, 3), NONE);
        Check.due("lies dry", x.lies(0, 0, false), 1);
        Check.tells(x, "in 0", x.told(0, 3), 0);
        Check.tells(x, "dry", x.told(0, 4), 0);
        Check.due("lies wet on the floor", x.lies(0, NONE, true), 1);
        Check.tells(x, "on the floor", x.told(0, 3), NONE);
        Check.tells(x, "wet there", x.told(0, 4), 1);
        Check.due("lies 2", x.lies(2, 0, true), BAD);
        Check.due("lies -1", x.lies(-1, 0, true), BAD);
        Check.due("lies in 2", x.lies(0, 2, false), BAD);
        Check.due("lies in -1", x.lies(0, -1, false), BAD);
        Check.due("lies in -10", x.lies(0, -10, false), BAD);
        Check.tells(x, "refused stays", x.told(0, 4), 1);
    }

    private static void told() {
        LostRoom x = Check.roomBy(HOUSE);
        x.thing(4, 12, 34, 5, 6);
        x.lies(0, 1, false);
        int[] want = {4, 12, 34, 1, 0};
        for (int what = 0; what < 5; what++) Check.tells(x, "told " + what, x.told(0, what), want[what]);
        x.told(0, 2);
        Check.due("told 5", x.told(0, 5), BAD);
        Check.due("told -1", x.told(0, -1), BAD);
        Check.due("told thing 1", x.told(1, 0), BAD);
        Check.due("told thing -1", x.told(-1, 0), BAD);
        Check.due("refused leaves asked", x.asked(), 34);
    }

    private static void mark() {
        LostRoom x = Check.roomBy(HOUSE);
        x.thing(1, 0, 50, 3, 4);
        x.thing(2, 0, 50, 0, 4);
        x.thing(2, 0, 50, 7, 4);
        x.thing(3, 0, 50, 82, 1);
        x.thing(4, 0, 50, 5, 6);
        x.thing(5, 0, 50, 1235, 6);
        int[][] tells = {{0, 1, 3}, {1, 2, 4}, {2, 2, 74}, {3, 2, 82}, {3, 3, 1}, {4, 4, 56}, {5, 5, 1235}};
        for (int[] one : tells) Check.due("mark " + one[0] + " " + one[1], x.mark(one[0], one[1]), one[2]);
        int[][] unlike = {{0, 2}, {0, 5}, {1, 3}, {1, 1}, {3, 1}, {3, 4}, {3, 5}, {4, 2}, {4, 3}, {5, 4}, {5, 1}};
        for (int i = 0; i < unlike.length; i++) {
            Check.finds(x, "mark " + unlike[i][0] + " " + unlike[i][1], i, x.mark(unlike[i][0], unlike[i][1]), 3);
        }
        Check.due("mark kind 0", x.mark(0, 0), BAD);
        Check.due("mark kind 6", x.mark(0, 6), BAD);
        Check.due("mark thing 6", x.mark(6, 1), BAD);
        Check.due("mark thing -1", x.mark(-1, 1), BAD);
        Check.due("mark tells nothing", x.asked(), 0);
    }
}
