import java.util.ArrayList;
import java.util.List;

/** The edges of promises 15 to 18, sentence by sentence: THINGS, where they lie, what they tell. */
public final class EdgesOfThingsTest {
    private static final int BAD = LostRoom.BAD;
    private static final String HOUSE = "house 'l10-20s3t4h5 l15-30s5t6h7 k1234^5 k2222^3'";

    public static void main(String[] args) {
        kinds();
        years();
        sizes();
        letters();
        named();
        namedLodgers();
        tickets();
        keys();
        notLookedAt();
        twentyThings();
        badIsAheadOfFull();
        numbers();
        atFirst();
        lies();
        told();
        mark();
        markUnlike();
        Check.end();
    }

    /** A THING as the first one of a room with two LODGERS: 0 if it goes, BAD if not; and what it then tells. */
    private static void thing(String sentence, int kind, int a, int b, int x, int y, boolean goes) {
        LostRoom room = new LostRoom();
        write(room, "l0-9s1t1h1l0-9s1t1h1k1111^0");
        String call = Edge.said(sentence) + ": thing " + kind + " " + a + " " + b + " " + x + " " + y;
        Check.due(call, room.thing(kind, a, b, x, y), goes ? 0 : BAD);
        Check.due(call + ", then things", room.count(2), goes ? 1 : 0);
        if (!goes) return;
        Check.tells(room, call + ", then its kind", room.told(0, 0), kind);
        Check.tells(room, call + ", then a", room.told(0, 1), a);
        Check.tells(room, call + ", then b", room.told(0, 2), b);
        if (kind == 3) Check.due(call + ", then mark as a letter", room.mark(0, 2), x);
        int tells = kind == 2 || kind == 4 ? 10 * x + y : kind == 3 ? y : x;
        Check.due(call + ", then mark", room.mark(0, kind), tells);
    }

    private static void write(LostRoom room, String signs) {
        room.text(0, signs.length());
        for (int i = 0; i < signs.length(); i++) room.put(0, i, signs.charAt(i));
        room.book(0);
    }

    private static boolean in(int v, int low, int high) {
        return low <= v && v <= high;
    }

    private static void kinds() {
        for (int kind : new int[] {-1, 0, 1, 5, 6, 7, Integer.MAX_VALUE, Integer.MIN_VALUE}) {
            thing("A THING of a KIND (1 .. 5), of years a to b: its number.", kind, 0, 9, kind == 5 ? 1111 : 1, 2, in(kind, 1, 5));
        }
    }

    private static void years() {
        String sentence = "are of years a to b (0 .. 99, a no more than b)";
        int[] some = {Integer.MIN_VALUE, -1, 0, 1, 50, 98, 99, 100, Integer.MAX_VALUE};
        for (int a : some) for (int b : some) thing(sentence, 5, a, b, 1111, 0, in(a, 0, 99) && in(b, 0, 99) && a <= b);
        for (int a = 0; a <= 99; a++) {
            thing(sentence, 1, a, a, 1, 0, true);
            thing(sentence, 1, a, a - 1, 1, 0, false);
        }
    }

    private static void sizes() {
        for (int x = -1; x <= 11; x++) thing("1 CLOTH (its SIZE 1 .. 9)", 1, 0, 9, x, 0, in(x, 1, 9));
        thing("1 CLOTH (its SIZE 1 .. 9)", 1, 0, 9, Integer.MAX_VALUE, 0, false);
        thing("1 CLOTH (its SIZE 1 .. 9)", 1, 0, 9, Integer.MIN_VALUE, 0, false);
    }

    private static void letters() {
        String sentence = "2 LETTER (its TOWN 0 .. 9, 0: not to be read; the HAND 1 .. 9 that wrote it)";
        int[] some = {Integer.MIN_VALUE, -1, 0, 1, 2, 8, 9, 10, 11, Integer.MAX_VALUE};
        for (int x : some) for (int y : some) thing(sentence, 2, 0, 9, x, y, in(x, 0, 9) && in(y, 1, 9));
    }

    private static void named() {
        String sentence = "NAMED 10 times TOWN and HAND, the LODGER";
        for (int x = -12; x <= 112; x++) thing(sentence, 3, 0, 9, x, 0, in(x, 1, 99) && x % 10 != 0);
        for (int x : new int[] {Integer.MAX_VALUE, Integer.MIN_VALUE, 999, 1000, 1001}) thing(sentence, 3, 0, 9, x, 0, false);
    }

    private static void namedLodgers() {
        String sentence = "3 NAMED (a LETTER; to a LODGER)";
        for (int y : new int[] {Integer.MIN_VALUE, -9, -1, 0, 1, 2, 3, 8, Integer.MAX_VALUE}) thing(sentence, 3, 0, 9, 11, y, in(y, 0, 1));
        Edge.of(sentence, "thing 3 0 9 11 0 = BAD", "house 'k1111^0'", "thing 3 0 9 11 0 = BAD", "house 'l0-9s1t1h1'",
            "thing 3 0 9 11 0 = 0", "thing 3 0 9 11 1 = BAD", "write 0 'l0-9s1t1h1'", "house 'l0-9s1t1h1 l0-9s1t1h1'",
            "thing 3 0 9 11 1 = 0", "book 0 = 0", "thing 3 0 9 11 1 = BAD");
        Edge.of(sentence, "house '" + "l0-9s1t1h1".repeat(8) + "'", "thing 3 0 9 11 7 = 0", "thing 3 0 9 11 8 = BAD");
    }

    private static void tickets() {
        String sentence = "4 TICKET (from a TOWN 1 .. 9 to another one)";
        for (int x = -1; x <= 11; x++) for (int y = -1; y <= 11; y++) {
            thing(sentence, 4, 0, 9, x, y, in(x, 1, 9) && in(y, 1, 9) && x != y);
        }
        thing(sentence, 4, 0, 9, Integer.MAX_VALUE, 1, false);
        thing(sentence, 4, 0, 9, 1, Integer.MAX_VALUE, false);
        thing(sentence, 4, 0, 9, Integer.MIN_VALUE, 1, false);
        thing(sentence, 4, 0, 9, 1, Integer.MIN_VALUE, false);
    }

    private static void keys() {
        String sentence = "5 KEY (four figures 1 .. 5)";
        for (int x = -5556; x <= 5600; x++) {
            LostRoom room = new LostRoom();
            boolean goes = x > 0 && Integer.toString(x).matches("[1-5]{4}");
            Check.due(Edge.said(sentence) + ": key " + x, room.thing(5, 0, 9, x, 0), goes ? 0 : BAD);
            if (goes) Check.due(Edge.said(sentence) + ": mark of key " + x, room.mark(0, 5), x);
        }
        int[] more = {11111, 55555, 12345, 111111, 1111 + 65536, Integer.MAX_VALUE, Integer.MIN_VALUE, Integer.MIN_VALUE + 1111};
        for (int x : more) thing(sentence, 5, 0, 9, x, 0, false);
    }

    private static void notLookedAt() {
        for (int y : new int[] {Integer.MIN_VALUE, -1, 0, 9, 10, Integer.MAX_VALUE}) {
            thing("KEY its number of four figures (others not looked at)", 5, 0, 9, 1111, y, true);
            thing("KEY its number of four figures (others not looked at)", 1, 0, 9, 9, y, true);
        }
    }

    private static void twentyThings() {
        Edge.of("THINGS 0, 1, .. (20 at most)", HOUSE, "19 x thing 1 0 50 3 4", "thing 2 0 50 3 4 = 19", "count 2 = 20",
            "thing 1 0 50 3 4 = FULL", "thing 5 0 0 1111 0 = FULL", "told 19 0 tells 2", "told 20 0 = BAD", "lies 19 0 true = 1",
            "lies 20 0 true = BAD", "mark 19 2 = 34", "mark 20 2 = BAD", "may 19 = 0", "may 20 = BAD", "opens 19 = UNLIKE",
            "opens 20 = BAD", "journey 1048575 = 1", "journey 1048576 = BAD");
    }

    private static void badIsAheadOfFull() {
        String sentence = "in this order: BAD -1 (a number that is none, or not as told), FULL -2";
        Edge.of(sentence, HOUSE, "20 x thing 1 0 50 3 4", "thing 0 0 50 3 4 = BAD", "thing 6 0 50 3 4 = BAD", "thing 1 -1 50 3 4 = BAD",
            "thing 1 0 100 3 4 = BAD", "thing 1 9 8 3 4 = BAD", "thing 1 0 50 0 4 = BAD", "thing 2 0 50 3 0 = BAD",
            "thing 3 0 50 10 0 = BAD", "thing 3 0 50 11 2 = BAD", "thing 4 0 50 3 3 = BAD", "thing 5 0 50 1116 0 = BAD",
            "thing 3 0 50 11 1 = FULL", "thing 4 0 50 3 4 = FULL");
    }

    private static void numbers() {
        List<String> steps = new ArrayList<>();
        steps.add(HOUSE);
        for (int i = 0; i < 20; i++) steps.add("thing 1 0 50 3 4 = " + i);
        steps.add("book 3 = 2");
        steps.add("thing 1 0 50 3 4 = 0");
        Edge.of("THINGS 0, 1, .. (20 at most)", steps);
    }

    private static void atFirst() {
        Edge.of("lie in a TRUNK, or on the floor (at first), WET or not (at first)", HOUSE, "thing 1 0 50 3 4 = 0", "told 0 3 tells NONE",
            "told 0 4 tells 0", "lies 0 1 true = 1", "book 3 = 2", "thing 1 0 50 3 4 = 0", "told 0 3 tells NONE", "told 0 4 tells 0");
    }

    private static void lies() {
        String sentence = "A THING lies in a TRUNK (NONE: on the floor), WET or not: 1. BAD.";
        Edge.of(sentence, HOUSE, "thing 1 0 50 3 4 = 0", "thing 1 0 50 3 4 = 1", "lies 0 0 true = 1", "told 0 3 tells 0", "told 0 4 tells 1",
            "lies 0 1 false = 1", "told 0 3 tells 1", "told 0 4 tells 0", "lies 0 NONE true = 1", "told 0 3 tells NONE", "told 0 4 tells 1",
            "lies 1 1 true = 1", "told 0 3 tells NONE", "trunk 1 3 tells 1", "trunk 0 3 tells 0");
        Edge.of(sentence, HOUSE, "thing 1 0 50 3 4 = 0", "lies 0 1 true = 1", "lies 0 2 false = BAD", "lies 0 -1 false = BAD",
            "lies 0 -8 false = BAD", "lies 0 -10 false = BAD", "lies 0 8 false = BAD", "lies 0 MOST false = BAD", "lies 0 LEAST false = BAD",
            "lies 1 0 false = BAD", "lies -1 0 false = BAD", "lies NONE 0 false = BAD", "lies MOST 0 false = BAD", "lies LEAST 0 false = BAD",
            "lies 1 NONE false = BAD", "told 0 3 tells 1", "told 0 4 tells 1");
        Edge.of(sentence, "lies 0 NONE true = BAD", "thing 1 0 50 3 4 = 0", "lies 0 0 true = BAD", "told 0 4 tells 0", "lies 0 NONE true = 1",
            "told 0 4 tells 1");
    }

    private static void told() {
        String sentence = "Of a THING: 0 its KIND, 1 a, 2 b, 3 its TRUNK (NONE), 4 whether it is WET (1, 0), all told by asked(): 1. BAD.";
        Edge.of(sentence, HOUSE, "thing 3 0 99 11 1 = 0", "told 0 0 tells 3", "told 0 1 tells 0", "told 0 2 tells 99", "told 0 3 tells NONE",
            "told 0 4 tells 0", "lies 0 0 true = 1", "told 0 3 tells 0", "told 0 4 tells 1", "told 0 5 = BAD", "told 0 -1 = BAD",
            "told 1 0 = BAD", "told -1 0 = BAD", "told 0 MOST = BAD", "told 0 LEAST = BAD", "told MOST 0 = BAD", "told LEAST 0 = BAD");
        Edge.of(sentence, "told 0 0 = BAD");
    }

    private static void mark() {
        String sentence = "What a THING that IS of a KIND tells: a CLOTH its SIZE, a LETTER (NAMED, too) 10 times TOWN and HAND, "
            + "a NAMED one the LODGER, a TICKET 10 times from and to, a KEY its number.";
        Edge.of(sentence, HOUSE, "thing 1 0 9 1 5 = 0", "thing 2 0 9 0 1 = 1", "thing 2 0 9 9 9 = 2", "thing 3 0 9 1 0 = 3",
            "thing 3 0 9 99 1 = 4", "thing 4 0 9 1 9 = 5", "thing 4 0 9 9 1 = 6", "thing 5 0 9 1111 5 = 7", "thing 5 0 9 5555 5 = 8",
            "mark 0 1 = 1", "mark 1 2 = 1", "mark 2 2 = 99", "mark 3 2 = 1", "mark 3 3 = 0", "mark 4 2 = 99", "mark 4 3 = 1",
            "mark 5 4 = 19", "mark 6 4 = 91", "mark 7 5 = 1111", "mark 8 5 = 5555");
    }

    private static void markUnlike() {
        String sentence = "BAD: also KIND 0; UNLIKE.";
        int[] x = {1, 1, 11, 1, 1111};
        int[] y = {0, 1, 0, 2, 0};
        for (int kind = 1; kind <= 5; kind++) {
            List<String> steps = new ArrayList<>();
            steps.add(HOUSE);
            steps.add("thing " + kind + " 0 9 " + x[kind - 1] + " " + y[kind - 1] + " = 0");
            for (int as = 1; as <= 5; as++) {
                boolean is = as == kind || kind == 3 && as == 2;
                if (!is) steps.add("mark 0 " + as + " = UNLIKE");
            }
            for (String none : new String[] {"0", "-1", "6", "MOST", "LEAST"}) {
                steps.add("mark 0 " + none + " = BAD");
                steps.add("mark 1 " + none + " = BAD");
            }
            for (String none : new String[] {"1", "-1", "MOST", "LEAST"}) steps.add("mark " + none + " " + kind % 5 + " = BAD");
            Edge.of(sentence, steps);
        }
        Edge.of(sentence, "mark 0 0 = BAD", "mark 0 1 = BAD");
    }
}
