import java.util.ArrayList;
import java.util.List;

/** The edges of promises 10 to 14, sentence by sentence: FAULTS, BOOKS, WEAR, what LODGERS and TRUNKS tell. */
public final class EdgesOfBooksTest {
    private static final int NONE = LostRoom.NONE, STATE = LostRoom.STATE;
    private static final String L = "l10-20s3t4h5", K = "k1234^5", TWO = "k1111^0k2222^1";

    public static void main(String[] args) {
        blanks();
        noItems();
        blanksWithin();
        endsTooEarly();
        years();
        yearsOfTwoFigures();
        figuresOfLodgers();
        figuresOfTrunks();
        trunksToldAhead();
        eightLodgers();
        eightTrunks();
        twelveStanding();
        everyByteOfALodger();
        everyByteOfATrunk();
        everyByteOfAStanding();
        refusedFault();
        book();
        bookTakesAway();
        refusedBook();
        wear();
        lodger();
        trunk();
        Check.end();
    }

    /** The FAULT of a TEXT, and whether a BOOK can be read by it. */
    private static void fault(String sentence, String signs, int want) {
        LostRoom x = new LostRoom();
        x.text(0, signs.length());
        for (int i = 0; i < signs.length(); i++) x.put(0, i, signs.charAt(i));
        Check.due(Edge.said(sentence) + ": fault of '" + signs + "'", x.fault(0), want);
        int stands = x.book(0);
        Check.due(Edge.said(sentence) + ": book of '" + signs + "'", stands == STATE ? 1 : stands >= 0 ? 0 : stands, want == NONE ? 0 : 1);
    }

    private static void blanks() {
        String sentence = "blanks (32) ahead, between, behind as many as wanted";
        for (int n : new int[] {0, 1, 2, 50}) {
            String some = " ".repeat(n);
            fault(sentence, some + L, NONE);
            fault(sentence, L + some, NONE);
            fault(sentence, some + K + some, NONE);
            fault(sentence, L + some + K, NONE);
            fault(sentence, K + some + L, NONE);
            fault(sentence, TWO + some + "u0/1", NONE);
            fault(sentence, TWO + "u0/1" + some + K, NONE);
            fault(sentence, some + "x", n);
            fault(sentence, L + some + "x", 12 + n);
        }
        fault(sentence, " ".repeat(108) + L, NONE);
        fault(sentence, L + " ".repeat(108), NONE);
        fault(sentence, " ".repeat(119) + "l", 120);
        fault(sentence, " ".repeat(119) + "x", 119);
    }

    private static void noItems() {
        for (int n : new int[] {0, 1, 119, 120}) fault("Items (perhaps none)", " ".repeat(n), NONE);
        Edge.of("Items (perhaps none)", "text 0 0 = 0", "fault 0 = NONE", "book 0 = 0", "count 0 = 0", "count 1 = 0");
    }

    private static void blanksWithin() {
        for (String item : new String[] {L, K, "l5-5s3t4h5", "l1-20s3t4h5"}) {
            for (int n = 1; n < item.length(); n++) {
                fault("none within items", item.substring(0, n) + " " + item.substring(n), n);
            }
        }
        for (int n = 1; n < 4; n++) fault("none within items", TWO + "u0/1".substring(0, n) + " " + "u0/1".substring(n), 14 + n);
    }

    private static void endsTooEarly() {
        String sentence = "the TEXT's size, if its end comes too early";
        for (String item : new String[] {L, K, "l5-5s3t4h5", "l0-99s9t9h9"}) {
            for (int n = 1; n < item.length(); n++) {
                fault(sentence, item.substring(0, n), n);
                fault(sentence, K + " " + item.substring(0, n), 8 + n);
            }
        }
        for (int n = 1; n < 4; n++) fault(sentence, TWO + "u0/1".substring(0, n), 14 + n);
        String full = " ".repeat(108) + L;
        for (int n = 1; n < 12; n++) fault(sentence, full.substring(n, 108 + n), 108);
    }

    private static void years() {
        String sentence = "(one or two figures each; 0 .. 99, a no more than b)";
        for (String years : new String[] {"0-0", "00-00", "0-00", "00-0", "0-99", "99-99", "9-10", "09-9", "9-09", "5-5", "20-20"}) {
            fault(sentence, "l" + years + "s1t1h1", NONE);
        }
        fault(sentence, "l-5s1t1h1", 1);
        fault(sentence, "l5-s1t1h1", 3);
        fault(sentence, "l100-5s1t1h1", 3);
        fault(sentence, "l000-5s1t1h1", 3);
        fault(sentence, "l5-100s1t1h1", 5);
        fault(sentence, "l5-055s1t1h1", 5);
        fault(sentence, "l+5-5s1t1h1", 1);
        fault(sentence, "l5--5s1t1h1", 3);
        String behind = "a b below a: the place behind";
        fault(behind, "l1-0s1t1h1", 4);
        fault(behind, "l99-98s1t1h1", 6);
        fault(behind, "l10-9s1t1h1", 5);
        fault(behind, "l10-09s1t1h1", 6);
        fault(behind, "l9-8", 4);
        fault(behind, "l99-98", 6);
        fault(behind, "l21-2", 5);
        fault(behind, "l20-190", 6);
        fault(behind, "l20-3s1t1h1", 5);
        fault(behind, "l1-0x", 4);
    }

    /** All a and b, with a sign behind that can't stand there: a b below a is found ahead of it, at the same place. */
    private static void yearsOfTwoFigures() {
        for (int a = 0; a <= 99; a++) {
            for (int b : new int[] {0, a - 1, a, a + 1, 9, 10, 99}) {
                if (b < 0 || b > 99) continue;
                String years = "l" + a + "-" + b;
                fault("a b below a: the place behind", years + "s1t1h1", b < a ? years.length() : NONE);
            }
        }
    }

    private static void figuresOfLodgers() {
        String[] ahead = {"l10-20s", "l10-20s3t", "l10-20s3t4h"};
        String[] behind = {"t4h5", "h5", ""};
        String[] sentences = {"SIZE x (1 .. 9)", "TOWN y (1 .. 9)", "HAND z (1 .. 9; one figure each)"};
        for (int i = 0; i < 3; i++) {
            int place = ahead[i].length();
            for (int figure = 0; figure <= 9; figure++) {
                fault(sentences[i], ahead[i] + figure + behind[i], figure == 0 ? place : NONE);
                fault("one figure each", ahead[i] + "1" + figure + behind[i], place + 1);
            }
            fault(sentences[i], ahead[i] + ":" + behind[i], place);
            fault(sentences[i], ahead[i] + "/" + behind[i], place);
        }
    }

    private static void figuresOfTrunks() {
        for (int place = 1; place <= 4; place++) {
            for (char figure = '/'; figure <= ':'; figure++) {
                boolean goes = figure >= '1' && figure <= '5';
                String signs = "k" + "1234".substring(0, place - 1) + figure + "1234".substring(place) + "^5";
                fault("four figures 1 .. 5", signs, goes ? NONE : place);
            }
        }
        fault("four figures 1 .. 5", "k123^5", 4);
        fault("four figures 1 .. 5", "k12345^5", 5);
        fault("four figures 1 .. 5", "k^5", 1);
        for (char figure = '/'; figure <= ':'; figure++) {
            fault("^ (94) and a figure 0 .. 9", "k1234^" + figure, figure >= '0' && figure <= '9' ? NONE : 6);
        }
        fault("^ (94) and a figure 0 .. 9", "k1234^55", 7);
        fault("^ (94) and a figure 0 .. 9", "k1234]5", 5);
        fault("^ (94) and a figure 0 .. 9", "k1234_5", 5);
    }

    private static void trunksToldAhead() {
        String sentence = "TRUNK j stands on TRUNK i (unlike, of those told ahead";
        String trunks = "";
        for (int all = 0; all <= 8; all++) {
            for (int i = 0; i <= 9; i++) {
                int want = i < all ? NONE : trunks.length() + 1;
                int other = i == 0 ? 1 : 0;
                int wantOther = want != NONE ? want : other < all ? NONE : trunks.length() + 3;
                fault(sentence, trunks + "u" + i + "/" + other, wantOther);
                if (all > 0) fault(sentence, trunks + "u0/" + i, i > 0 && i < all ? NONE : trunks.length() + 3);
            }
            if (all < 8) trunks += "k1111^0";
        }
        fault(sentence, "u0/1" + TWO, 1);
        fault(sentence, "k1111^0u0/1k1111^0", 10);
        fault(sentence, "k1111^0u1/0k1111^0", 8);
        fault(sentence, "k1111^0 k1111^0u0/1 k1111^0u0/2 u2/0", NONE);
        fault(sentence, TWO + "u0/0", 17);
        fault(sentence, TWO + "u1/1", 17);
        fault(sentence, TWO + "u0/01", 17);
        fault(sentence, TWO + "u01/0", 16);
    }

    private static void eightLodgers() {
        String one = "l0-9s1t1h1";
        fault("a LODGER (8 at most)", one.repeat(7), NONE);
        fault("a LODGER (8 at most)", one.repeat(8), NONE);
        fault("a ninth l, k, a thirteenth u: its letter", one.repeat(8) + one, 80);
        fault("a ninth l, k, a thirteenth u: its letter", one.repeat(8) + "  l", 82);
        fault("a ninth l, k, a thirteenth u: its letter", one.repeat(8) + "lx", 80);
        fault("a ninth l, k, a thirteenth u: its letter", one.repeat(8) + K + "l", 87);
        Edge.of("a LODGER (8 at most)", "house '" + one.repeat(8) + "'", "count 0 = 8", "lodger 7 1 tells 9", "lodger 8 1 = BAD");
    }

    private static void eightTrunks() {
        fault("a TRUNK (8 at most) with its LOCK and HEIGHT", K.repeat(7), NONE);
        fault("a TRUNK (8 at most) with its LOCK and HEIGHT", K.repeat(8), NONE);
        fault("a ninth l, k, a thirteenth u: its letter", K.repeat(9), 56);
        fault("a ninth l, k, a thirteenth u: its letter", K.repeat(8) + " k", 57);
        fault("a ninth l, k, a thirteenth u: its letter", K.repeat(8) + "kx", 56);
        fault("a ninth l, k, a thirteenth u: its letter", K.repeat(8) + L + "k", 68);
        Edge.of("a TRUNK (8 at most) with its LOCK and HEIGHT", "house '" + K.repeat(8) + "'", "count 1 = 8",
            "trunk 7 0 tells 1234", "trunk 7 1 tells 5", "trunk 8 0 = BAD");
    }

    private static void twelveStanding() {
        fault("12 such at most", TWO + "u0/1".repeat(11), NONE);
        fault("12 such at most", TWO + "u0/1".repeat(12), NONE);
        fault("12 such at most", TWO + "u0/1u1/0".repeat(6), NONE);
        fault("a ninth l, k, a thirteenth u: its letter", TWO + "u0/1".repeat(13), 62);
        fault("a ninth l, k, a thirteenth u: its letter", TWO + "u0/1".repeat(12) + "  u", 64);
        fault("a ninth l, k, a thirteenth u: its letter", TWO + "u0/1".repeat(12) + K + "u", 69);
        fault("a ninth l, k, a thirteenth u: its letter", TWO + "u0/1".repeat(12) + "u0/0", 62);
    }

    private static void every(String signs, int place, int want, int v) {
        LostRoom x = new LostRoom();
        x.text(0, signs.length());
        for (int i = 0; i < signs.length(); i++) x.put(0, i, i == place ? v : signs.charAt(i));
        String call = Edge.said("a figure that is none such: its place") + ": byte " + v + " at place " + place + " of '" + signs + "'";
        Check.due(call, x.fault(0), want);
    }

    private static boolean figure(int v, int low, int high) {
        return v >= '0' + low && v <= '0' + high;
    }

    private static void everyByteOfALodger() {
        for (int v = -128; v <= 127; v++) {
            // l10-20: an a of 30 or more, a b of less than 10 are found behind b
            int firstOfA = figure(v, 0, 2) ? NONE : figure(v, 3, 9) ? 6 : 1;
            int secondOfA = figure(v, 0, 9) ? NONE : v == '-' ? 3 : 2;
            int firstOfB = figure(v, 1, 9) ? NONE : v == '0' ? 6 : 4;
            int letter = v == 'l' ? NONE : v == ' ' || v == 'u' ? 1 : v == 'k' ? 2 : 0;
            int[] want = {letter, firstOfA, secondOfA, v == '-' ? NONE : 3, firstOfB, figure(v, 0, 9) ? NONE : 5, v == 's' ? NONE : 6,
                figure(v, 1, 9) ? NONE : 7, v == 't' ? NONE : 8, figure(v, 1, 9) ? NONE : 9, v == 'h' ? NONE : 10,
                figure(v, 1, 9) ? NONE : 11};
            for (int place = 0; place < 12; place++) every(L, place, want[place], v);
        }
    }

    private static void everyByteOfATrunk() {
        for (int v = -128; v <= 127; v++) {
            int letter = v == 'k' ? NONE : v == ' ' || v == 'u' ? 1 : v == 'l' ? 3 : 0;
            every(K, 0, letter, v);
            for (int place = 1; place <= 4; place++) every(K, place, figure(v, 1, 5) ? NONE : place, v);
            every(K, 5, v == '^' ? NONE : 5, v);
            every(K, 6, figure(v, 0, 9) ? NONE : 6, v);
        }
    }

    private static void everyByteOfAStanding() {
        String signs = TWO + "u0/1";
        for (int v = -128; v <= 127; v++) {
            int letter = v == 'u' ? NONE : v == ' ' || v == 'k' ? 15 : v == 'l' ? 16 : 14;
            every(signs, 14, letter, v);
            every(signs, 15, v == '0' ? NONE : v == '1' ? 17 : 15, v);
            every(signs, 16, v == '/' ? NONE : 16, v);
            every(signs, 17, v == '1' ? NONE : 17, v);
        }
    }

    private static void refusedFault() {
        Edge.of("A FAULT of a TEXT; NONE: there is none. BAD; NOTHING.", "fault 0 = NOTHING", "fault 3 = NOTHING", "fault 4 = BAD",
            "fault -1 = BAD", "fault MOST = BAD", "fault LEAST = BAD", "text 0 0 = 0", "fault 0 = NONE", "write 0 'x'", "fault 0 = 0",
            "write 0 ' k'", "fault 0 = 2", "fault 1 = NOTHING", "count 1 = 0");
    }

    private static void book() {
        Edge.of("LODGERS, TRUNKS are 0, 1, .. as they come", "write 1 'k1111^3l1-2s3t4h5k2222^4 l6-7s8t9h1u1/0'", "book 1 = 2",
            "count 0 = 2", "count 1 = 2", "lodger 0 0 tells 1", "lodger 1 0 tells 6", "trunk 0 0 tells 1111", "trunk 1 0 tells 2222",
            "trunk 1 2 tells 1", "trunk 0 2 tells 0", "fault 1 = NONE");
        Edge.of("LODGERS, TRUNKS by a BOOK (anew; THINGS, LINES, BITS, CLAIMS go): how many TRUNKS.",
            "house 'l1-2s3t4h5 l1-2s3t4h5 k1111^1 k1111^1 k1111^1'", "write 0 'k5555^9'", "book 0 = 1", "count 0 = 0", "count 1 = 1",
            "lodger 0 0 = BAD", "trunk 0 0 tells 5555", "trunk 1 0 = BAD", "write 0 'l7-8s9t1h2'", "book 0 = 0", "count 0 = 1",
            "count 1 = 0", "lodger 0 0 tells 7", "lodger 1 0 = BAD", "trunk 0 0 = BAD");
        StringBuilder all = new StringBuilder();
        for (int t = 0; t <= 8; t++) {
            Edge.of("how many TRUNKS", "write 0 '" + all + "'", "book 0 = " + t, "count 1 = " + t);
            all.append(K);
        }
    }

    private static void bookTakesAway() {
        Edge.of("(anew; THINGS, LINES, BITS, CLAIMS go)", "house 'l0-9s3t4h5k1234^5'", "thing 1 0 9 3 0 = 0", "thing 2 0 9 4 1 = 1",
            "lies 0 0 true = 1", "line 1 0 9 = 0", "bit 1 1 500 500 = 0", "ints 0 : 1 3", "claim 7 0 0 = 0", "wear 4 = 1",
            "fits = 1", "book 3 = 1", "count 2 = 0", "count 3 = 0", "count 4 = 0", "count 5 = 0", "count 6 = 0", "count 7 = 1",
            "count 8 = 1", "trunk 0 3 tells 0", "told 0 0 = BAD", "lineOf 0 = BAD", "bit 2 2 2 2 = 0", "joins 0 1 = BAD",
            "judge 0 = BAD", "heir 0 1 = NONE", "ints 0 is 1 3", "wear 4 = 4", "many = 1");
        Edge.of("(anew; THINGS, LINES, BITS, CLAIMS go)", "house 'l0-9s3t4h5k1234^5'", "20 x thing 1 0 9 3 0", "8 x line 0 0 9",
            "10 x bit 1 1 0 0", "ints 0 : 1 3", "8 x claim 7 0 0", "book 3 = 1", "thing 5 0 9 1111 0 = 0", "line 2 0 9 = 0",
            "bit 1 1 0 0 = 0", "claim 7 0 0 = 0", "told 0 3 tells NONE", "told 0 4 tells 0", "judge 0 = 0 tells 1", "sheets 1 = 1",
            "ints 1 is 0", "readings = 0", "travellers = 0");
    }

    private static void refusedBook() {
        String sentence = "BAD; NOTHING; STATE: a FAULT. (STATE behind NOTHING.)";
        Edge.of(sentence, "book 0 = NOTHING", "book 3 = NOTHING", "book 4 = BAD", "book -1 = BAD", "book MOST = BAD", "book LEAST = BAD");
        List<String> steps = new ArrayList<>(List.of("house 'l0-9s3t4h5k1234^5'", "thing 1 0 9 3 0 = 0", "line 1 0 9 = 0",
            "bit 1 1 500 500 = 0", "ints 0 : 1 3", "claim 7 0 0 = 0"));
        for (String signs : new String[] {"x", "k1234", "k1234^5k", "l9-8s1t1h1", "k1234^5u0/0", " k1234^5l"}) {
            steps.add("write 0 '" + signs + "'");
            steps.add("book 0 = STATE");
        }
        steps.addAll(List.of("book 1 = NOTHING", "count 0 = 1", "count 1 = 1", "count 2 = 1", "may 0 = 1", "ways 0 = 1"));
        Edge.of(sentence, steps);
    }

    private static void wear() {
        Edge.of("WEAR (0 .. 4): what it was. BAD.", "wear 0 = 1", "wear 4 = 0", "wear 5 = BAD", "wear -1 = BAD", "wear MOST = BAD",
            "wear LEAST = BAD", "wear 3 = 4", "wear 2 = 3", "wear 1 = 2", "wear 1 = 1");
    }

    private static void lodger() {
        String sentence = "Of a LODGER: 0 a, 1 b, 2 SIZE, 3 TOWN, 4 HAND, all told by asked(): 1. BAD.";
        Edge.of(sentence, "house 'l0-99s1t9h2 l98-99s9t1h3'", "lodger 0 0 tells 0", "lodger 0 1 tells 99", "lodger 0 2 tells 1",
            "lodger 0 3 tells 9", "lodger 0 4 tells 2", "lodger 1 0 tells 98", "lodger 1 1 tells 99", "lodger 1 2 tells 9",
            "lodger 1 3 tells 1", "lodger 1 4 tells 3", "lodger 2 0 = BAD", "lodger -1 0 = BAD", "lodger 0 5 = BAD", "lodger 0 -1 = BAD",
            "lodger 8 0 = BAD", "lodger MOST 0 = BAD", "lodger LEAST 0 = BAD", "lodger 0 MOST = BAD", "lodger 0 LEAST = BAD");
        Edge.of(sentence, "lodger 0 0 = BAD", "lodger -1 -1 = BAD", "house 'k1111^0'", "lodger 0 0 = BAD");
    }

    private static void trunk() {
        String sentence = "Of a TRUNK: 0 its LOCK (as one number of four figures), 1 HEIGHT, 2 TRUNKS that stand on it (bits), "
            + "3 how many THINGS lie in it, all told by asked(): 1. BAD.";
        Edge.of(sentence, "house 'k1111^0 k5555^9 k1234^5 u0/1 u0/2 u1/2 u2/1'", "thing 5 0 9 1111 0 = 0", "thing 5 0 9 1111 0 = 1",
            "lies 0 1 true = 1", "trunk 0 0 tells 1111", "trunk 0 1 tells 0", "trunk 0 2 tells 6", "trunk 0 3 tells 0",
            "trunk 1 0 tells 5555", "trunk 1 1 tells 9", "trunk 1 2 tells 4", "trunk 1 3 tells 1", "trunk 2 2 tells 2",
            "lies 1 1 false = 1", "trunk 1 3 tells 2", "lies 0 NONE false = 1", "trunk 1 3 tells 1");
        Edge.of(sentence, "house 'k1111^0 k1111^0 k1111^0'", "trunk 2 0 tells 1111", "trunk 3 0 = BAD", "trunk -1 0 = BAD", "trunk 0 4 = BAD",
            "trunk 0 -1 = BAD", "trunk NONE 3 = BAD", "trunk MOST 0 = BAD", "trunk LEAST 0 = BAD", "trunk 0 MOST = BAD", "trunk 0 LEAST = BAD");
        Edge.of(sentence, "trunk 0 0 = BAD", "house 'l0-9s1t1h1'", "trunk 0 0 = BAD", "house 'k1111^0'", "20 x thing 5 0 9 1111 0",
            "trunk 0 3 tells 0", "lies 19 0 true = 1", "trunk 0 3 tells 1");
        Edge.of("2 TRUNKS that stand on it (bits)", "house 'k1111^0k1111^0k1111^0k1111^0k1111^0k1111^0k1111^0k1111^0u7/0u7/6u0/7u0/7'",
            "trunk 7 2 tells 65", "trunk 0 2 tells 128", "trunk 6 2 tells 0");
    }
}
