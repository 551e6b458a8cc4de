import java.util.ArrayList;
import java.util.List;

/** The edges of promises 41 to 43, sentence by sentence: CLAIMS of HEIRS. */
public final class EdgesOfClaimsTest {
    private static final String HOUSE = "house 'l0-9s1t1h1 k1111^0 k2222^0'";

    public static void main(String[] args) {
        heirs();
        trunks();
        marks();
        manyMarks();
        eightClaims();
        inOrder();
        itsOwnMarks();
        isTrue();
        isTrueOfEachKind();
        judge();
        heir();
        heirAtLeast();
        heirNone();
        Check.end();
    }

    private static void heirs() {
        String sentence = "CLAIMS 0, 1, .. (8 at most): an HEIR (0 .. 9), a TRUNK, marks: a ROW of pairs (a KIND 1 .. 5, a number).";
        Edge.of(sentence, HOUSE, "ints 0 : 1 1", "claim 0 0 0 = 0", "claim 9 0 0 = 1", "claim 10 0 0 = BAD", "claim -1 0 0 = BAD",
            "claim MOST 0 0 = BAD", "claim LEAST 0 0 = BAD", "claim NONE 0 0 = BAD", "count 6 = 2");
        for (int heir = 0; heir <= 9; heir++) {
            Edge.of(sentence, HOUSE, "ints 0 : 1 1", "thing 1 0 9 1 0 = 0", "lies 0 1 false = 1", "claim " + heir + " 1 0 = 0",
                "heir 1 1 = " + heir + " tells 1");
        }
    }

    private static void trunks() {
        Edge.of("A CLAIM of an HEIR to a TRUNK by a ROW: its number. BAD; NOTHING; SIZE: none, or not by twos; FULL; UNLIKE: a KIND. (In this order.)",
            "ints 0 : 1 1", "claim 0 0 0 = BAD", HOUSE, "claim 0 1 0 = 0", "claim 0 2 0 = BAD", "claim 0 -1 0 = BAD", "claim 0 NONE 0 = BAD",
            "claim 0 MOST 0 = BAD", "claim 0 LEAST 0 = BAD", "claim 0 0 6 = BAD", "claim 0 0 -1 = BAD", "claim 0 0 MOST = BAD",
            "claim 0 0 LEAST = BAD", "claim 0 0 0 = 1", "ints 5 : 5 5", "claim 0 0 5 = 2");
    }

    private static void marks() {
        String sentence = "SIZE: none, or not by twos; FULL; UNLIKE: a KIND.";
        List<String> steps = new ArrayList<>(List.of(HOUSE));
        for (String kind : new String[] {"0", "-1", "6", "MOST", "LEAST", "NONE"}) {
            steps.add("ints 0 : " + kind + " 1");
            steps.add("claim 0 0 0 = UNLIKE");
            steps.add("ints 0 : 1 1 5 5 " + kind + " 1");
            steps.add("claim 0 0 0 = UNLIKE");
            steps.add("ints 0 : " + kind + " 1 1 1");
            steps.add("claim 0 0 0 = UNLIKE");
        }
        Edge.of(sentence, steps);
        Edge.of(sentence, HOUSE, "ints 0 : 1 0 2 -1 3 6 4 MOST 5 LEAST", "claim 0 0 0 = 0", "ints 0 : 1 6", "claim 0 0 0 = 1", "ints 0 : 5 0",
            "claim 0 0 0 = 2", "judge 0 = 0 tells 5", "judge 1 = 0 tells 1");
    }

    private static void manyMarks() {
        String sentence = "SIZE: none, or not by twos";
        for (int n = 0; n <= 48; n++) {
            StringBuilder marks = new StringBuilder("ints 0 :");
            for (int i = 0; i < n; i++) marks.append(i % 2 == 0 ? " 5" : " 1111");
            boolean goes = n > 0 && n % 2 == 0;
            Edge.of(sentence, HOUSE, "thing 5 0 9 1111 0 = 0", "lies 0 0 false = 1", marks.toString(), "claim 3 0 0 = " + (goes ? "0" : "SIZE"),
                goes ? "judge 0 = " + n / 2 + " tells " + n / 2 : "judge 0 = BAD", goes ? "heir 0 " + n / 2 + " = 3 tells " + n / 2 : "heir 0 1 = NONE");
        }
    }

    private static void eightClaims() {
        Edge.of("CLAIMS 0, 1, .. (8 at most)", HOUSE, "ints 0 : 1 1", "7 x claim 1 0 0", "claim 1 0 0 = 7", "count 6 = 8", "claim 1 0 0 = FULL",
            "claim 1 1 0 = FULL", "judge 7 = 0 tells 1", "judge 8 = BAD", "judge -1 = BAD", "book 3 = 2", "count 6 = 0", "judge 0 = BAD",
            "claim 1 0 0 = 0");
    }

    private static void inOrder() {
        String sentence = "BAD; NOTHING; SIZE: none, or not by twos; FULL; UNLIKE: a KIND. (In this order.)";
        Edge.of(sentence, HOUSE, "ints 0 : 1 1", "ints 1 : 0", "ints 2 :", "ints 3 : 0 0", "8 x claim 1 0 0", "claim 10 0 4 = BAD",
            "claim 0 2 4 = BAD", "claim 0 0 6 = BAD", "claim -1 0 1 = BAD", "claim 0 -1 3 = BAD", "claim 10 0 0 = BAD", "claim 0 0 4 = NOTHING",
            "claim 0 0 1 = SIZE", "claim 0 0 2 = SIZE", "claim 0 0 3 = FULL", "claim 0 0 0 = FULL", "ints 1 : 0 0 0", "claim 0 0 1 = SIZE");
        Edge.of(sentence, HOUSE, "ints 1 : 0", "ints 2 :", "ints 3 : 0 0", "claim 10 0 1 = BAD", "claim 0 2 3 = BAD", "claim 10 0 4 = BAD",
            "claim 0 0 4 = NOTHING", "claim 0 0 1 = SIZE", "claim 0 0 2 = SIZE", "claim 0 0 3 = UNLIKE", "count 6 = 0");
    }

    /** A CLAIM keeps its marks, whatever becomes of the ROW. */
    private static void itsOwnMarks() {
        Edge.of("How many marks of a CLAIM are TRUE; how many it has by asked().", HOUSE, "thing 1 0 9 1 0 = 0", "lies 0 0 false = 1",
            "ints 0 : 1 1 1 2", "claim 0 0 0 = 0", "judge 0 = 1 tells 2", "ints 0 : 5 5 5 5 5 5", "judge 0 = 1 tells 2", "lay 0 0 1 tells 5",
            "judge 0 = 1 tells 2", "tear 0 = 1", "judge 0 = 1 tells 2");
        Edge.of("How many marks of a CLAIM are TRUE; how many it has by asked().", HOUSE, "ints 0 : 1 1", "claim 0 0 0 = 0",
            "lay 0 0 5 tells 1", "thing 1 0 9 1 0 = 0", "lies 0 0 false = 1", "judge 0 = 1 tells 1");
    }

    private static void isTrue() {
        String sentence = "A mark is TRUE, if a THING in that TRUNK IS of that KIND and tells (mark()) that number.";
        Edge.of(sentence, HOUSE, "ints 0 : 1 3", "claim 0 0 0 = 0", "claim 0 1 0 = 1", "judge 0 = 0 tells 1", "thing 1 0 9 3 0 = 0",
            "judge 0 = 0 tells 1", "lies 0 0 false = 1", "judge 0 = 1 tells 1", "judge 1 = 0 tells 1", "lies 0 1 true = 1", "judge 0 = 0 tells 1",
            "judge 1 = 1 tells 1", "thing 1 0 9 3 0 = 1", "lies 1 1 true = 1", "judge 1 = 1 tells 1", "lies 0 NONE true = 1",
            "judge 1 = 1 tells 1", "lies 1 NONE true = 1", "judge 1 = 0 tells 1");
        Edge.of(sentence, HOUSE, "thing 1 0 9 3 0 = 0", "thing 1 0 9 5 0 = 1", "lies 0 0 false = 1", "lies 1 0 false = 1",
            "ints 0 : 1 3 1 3 1 4 1 5 5 3 2 3", "claim 0 0 0 = 0", "judge 0 = 3 tells 6");
    }

    /** A THING of each KIND, and what it could be taken to tell: only what mark() tells of it is TRUE. */
    private static void isTrueOfEachKind() {
        String[] things = {"1 0 9 2 0", "2 0 9 0 2", "3 0 9 2 0", "4 0 9 1 2", "5 0 9 1112 0"};
        int[][] tells = {{1, 2}, {2, 2}, {3, 0}, {4, 12}, {5, 1112}};
        int[] numbers = {-9, -3, -1, 0, 1, 2, 12, 21, 1112};
        for (int i = 0; i < 5; i++) for (int kind = 1; kind <= 5; kind++) for (int number : numbers) {
            boolean is = kind == tells[i][0] && number == tells[i][1] || i == 2 && kind == 2 && number == 2;
            Edge.of("A mark is TRUE, if a THING in that TRUNK IS of that KIND and tells (mark()) that number.", HOUSE, "thing " + things[i] + " = 0",
                "lies 0 1 false = 1", "ints 0 : " + kind + " " + number, "claim 0 1 0 = 0", "judge 0 = " + (is ? 1 : 0) + " tells 1");
        }
    }

    private static void judge() {
        Edge.of("How many marks of a CLAIM are TRUE; how many it has by asked(). BAD.", "judge 0 = BAD", HOUSE, "judge 0 = BAD",
            "ints 0 : 1 1 1 2 1 3", "claim 0 0 0 = 0", "judge 0 = 0 tells 3", "judge 1 = BAD", "judge -1 = BAD", "judge MOST = BAD",
            "judge LEAST = BAD", "judge 8 = BAD", "thing 1 0 9 3 0 = 0", "lies 0 0 false = 1", "judge 0 = 1 tells 3");
    }

    private static void heir() {
        String sentence = "The HEIR of the CLAIM to a TRUNK of which most marks are TRUE, n (1 .. 24) at least; how many by asked().";
        Edge.of(sentence, HOUSE, "heir 0 1 = NONE", "heir 0 24 = NONE", "heir 0 0 = BAD", "heir 0 25 = BAD", "heir 0 -1 = BAD",
            "heir 0 MOST = BAD", "heir 0 LEAST = BAD", "heir 1 1 = NONE", "heir 2 1 = BAD", "heir -1 1 = BAD", "heir NONE 1 = BAD",
            "heir MOST 1 = BAD", "heir LEAST 1 = BAD", "heir 2 0 = BAD");
        Edge.of(sentence, "heir 0 1 = BAD", "house 'l0-9s1t1h1'", "heir 0 1 = BAD");
        Edge.of(sentence, HOUSE, "thing 1 0 9 1 0 = 0", "thing 5 0 9 1111 0 = 1", "lies 0 0 false = 1", "lies 1 0 false = 1", "ints 0 : 1 1",
            "ints 1 : 1 1 5 1111", "ints 2 : 1 2 1 3 1 4", "claim 3 0 0 = 0", "heir 0 1 = 3 tells 1", "claim 4 0 1 = 1", "heir 0 1 = 4 tells 2",
            "claim 5 0 0 = 2", "heir 0 1 = 4 tells 2", "claim 6 0 2 = 3", "heir 0 1 = 4 tells 2", "claim 7 1 1 = 4", "heir 0 2 = 4 tells 2",
            "heir 1 1 = NONE", "lies 0 1 false = 1", "heir 0 1 = 4 tells 1", "heir 1 1 = 7 tells 1");
    }

    private static void heirAtLeast() {
        for (int right = 1; right <= 24; right++) {
            StringBuilder marks = new StringBuilder("ints 0 :");
            for (int i = 0; i < right; i++) marks.append(" 1 3");
            List<String> steps = new ArrayList<>(List.of(HOUSE, "thing 1 0 9 3 0 = 0", "lies 0 0 false = 1", marks.toString(), "claim 8 0 0 = 0"));
            for (int n : new int[] {1, right - 1, right, right + 1, 24}) {
                if (n < 1 || n > 24) continue;
                steps.add("heir 0 " + n + " = " + (n <= right ? "8 tells " + right : "NONE"));
            }
            Edge.of("n (1 .. 24) at least", steps);
        }
    }

    private static void heirNone() {
        String sentence = "NONE: none, or two such of unlike HEIRS. BAD.";
        String[] ones = {HOUSE, "thing 1 0 9 1 0 = 0", "thing 5 0 9 1111 0 = 1", "lies 0 0 false = 1", "lies 1 0 false = 1", "ints 0 : 1 1",
            "ints 1 : 5 1111", "ints 2 : 1 1 5 1111"};
        // by twos of HEIRS and of the ROWS by which they claim: "which most marks are TRUE" is of one, or of both
        for (int first = 0; first <= 2; first++) for (int second = 0; second <= 2; second++) for (int other = 3; other <= 4; other++) {
            List<String> steps = new ArrayList<>(List.of(ones));
            steps.add("claim 3 0 " + first + " = 0");
            steps.add("claim " + other + " 0 " + second + " = 1");
            int one = first == 2 ? 2 : 1;
            int two = second == 2 ? 2 : 1;
            String due = one == two && other != 3 ? "NONE" : (one >= two ? 3 : other) + " tells " + Math.max(one, two);
            for (int n = 1; n <= 3; n++) steps.add("heir 0 " + n + " = " + (n > Math.max(one, two) ? "NONE" : due));
            Edge.of(sentence, steps);
        }
        List<String> steps = new ArrayList<>(List.of(ones));
        steps.addAll(List.of("claim 3 0 0 = 0", "claim 4 0 1 = 1", "heir 0 1 = NONE", "claim 3 0 1 = 2", "heir 0 1 = NONE", "claim 4 0 0 = 3",
            "heir 0 1 = NONE", "claim 4 0 2 = 4", "heir 0 1 = 4 tells 2", "claim 3 1 2 = 5", "heir 0 1 = 4 tells 2", "claim 0 0 2 = 6",
            "heir 0 1 = NONE", "claim 4 0 2 = 7", "heir 0 1 = NONE", "heir 0 3 = NONE", "heir 1 1 = NONE"));
        Edge.of(sentence, steps);
        steps = new ArrayList<>(List.of(ones));
        steps.addAll(List.of("claim 0 0 0 = 0", "claim 0 0 0 = 1", "heir 0 1 = 0 tells 1", "claim 0 0 2 = 2", "heir 0 1 = 0 tells 2",
            "claim 0 0 2 = 3", "heir 0 2 = 0 tells 2", "heir 0 3 = NONE"));
        Edge.of(sentence, steps);
    }
}
