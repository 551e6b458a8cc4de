import java.util.ArrayList;
import java.util.List;

/** The edges of promises 19 to 25, sentence by sentence: who MAY have owned what, KEYS, water, piling. */
public final class EdgesOfOwnersTest {
    private static final int NONE = LostRoom.NONE;

    public static void main(String[] args) {
        yearsMeet();
        sizes();
        letters();
        named();
        tickets();
        keysAndCloth();
        may();
        fewest();
        fewestOfEight();
        fewestNought();
        fits();
        fitsMost();
        opensByFigures();
        opensByWear();
        opens();
        strange();
        strangeNone();
        water();
        waterOfTwo();
        waterNone();
        piling();
        pilingNone();
        pilingOfAll();
        Check.end();
    }

    private static LostRoom room(String book) {
        return Check.roomBy(book);
    }

    private static void yearsMeet() {
        String sentence = "if their years meet (some year is of both)";
        for (int[] who : new int[][] {{10, 20}, {10, 10}, {0, 0}, {99, 99}, {0, 99}}) {
            String book = "l" + who[0] + "-" + who[1] + "s1t1h1";
            for (int a : near(who)) for (int b : near(who)) {
                if (a > b) continue;
                boolean meet = false;
                for (int year = 0; year <= 99; year++) meet |= a <= year && year <= b && who[0] <= year && year <= who[1];
                LostRoom x = room(book);
                x.thing(5, a, b, 1111, 0);
                Check.due(Edge.said(sentence) + ": " + book + ", key of " + a + " to " + b, x.may(0), meet ? 1 : 0);
            }
        }
        Edge.of(sentence, "house 'l10-20s1t1h1 l21-30s1t1h1'", "thing 5 0 9 1111 0 = 0", "thing 5 0 10 1111 0 = 1",
            "thing 5 20 20 1111 0 = 2", "thing 5 20 21 1111 0 = 3", "thing 5 21 21 1111 0 = 4", "thing 5 31 99 1111 0 = 5",
            "thing 5 30 99 1111 0 = 6", "may 0 = 0", "may 1 = 1", "may 2 = 1", "may 3 = 3", "may 4 = 2", "may 5 = 0", "may 6 = 2");
    }

    private static List<Integer> near(int[] who) {
        List<Integer> all = new ArrayList<>();
        for (int year = 0; year <= 99; year++) {
            if (Math.abs(year - who[0]) <= 1 || Math.abs(year - who[1]) <= 1 || year == 0 || year == 99) all.add(year);
        }
        return all;
    }

    private static void sizes() {
        for (int size = 1; size <= 9; size++) for (int cloth = 1; cloth <= 9; cloth++) {
            LostRoom x = room("l0-9s" + size + "t1h1");
            x.thing(1, 0, 9, cloth, 0);
            x.thing(1, 10, 10, cloth, 0);
            int off = Math.max(size, cloth) - Math.min(size, cloth);
            String call = Edge.said("a CLOTH's SIZE differs from his by 1 at most") + ": " + cloth + " of " + size;
            Check.due(call, x.may(0), off <= 1 ? 1 : 0);
            Check.due(call + ", of a later year", x.may(1), 0);
        }
    }

    private static void letters() {
        for (int town = 0; town <= 9; town++) for (int hand = 1; hand <= 9; hand++) {
            LostRoom x = room("l0-9s1t4h6 l0-9s1t4h4 l0-9s1t6h6 l10-19s1t4h1");
            x.thing(2, 0, 9, town, hand);
            int want = 0;
            if ((town == 0 || town == 4) && hand != 6) want |= 1;
            if ((town == 0 || town == 4) && hand != 4) want |= 2;
            if ((town == 0 || town == 6) && hand != 6) want |= 4;
            Check.due(Edge.said("a LETTER's TOWN is his, or 0, and its HAND is not his") + ": " + town + " " + hand, x.may(0), want);
        }
    }

    private static void named() {
        for (int town = 0; town <= 9; town++) for (int hand = 1; hand <= 9; hand++) for (int who = 0; who < 3; who++) {
            LostRoom x = room("l0-9s1t4h6 l0-9s1t6h4 l10-19s1t4h1");
            x.thing(3, 0, 9, 10 * town + hand, who);
            boolean goes = who == 0 && (town == 0 || town == 4) && hand != 6 || who == 1 && (town == 0 || town == 6) && hand != 4;
            String call = Edge.said("of a NAMED one just he to whom it is (and as a LETTER)") + ": " + town + " " + hand + " to " + who;
            Check.due(call, x.may(0), goes ? 1 << who : 0);
        }
    }

    private static void tickets() {
        for (int from = 1; from <= 9; from++) for (int to = 1; to <= 9; to++) {
            if (from == to) continue;
            LostRoom x = room("l0-9s1t1h1 l0-9s1t5h1 l0-9s1t9h1 l10-19s1t5h1");
            x.thing(4, 0, 9, from, to);
            int want = 0;
            if (from == 1 || to == 1) want |= 1;
            if (from == 5 || to == 5) want |= 2;
            if (from == 9 || to == 9) want |= 4;
            Check.due(Edge.said("a TICKET is from or to his TOWN") + ": " + from + " to " + to, x.may(0), want);
        }
    }

    private static void keysAndCloth() {
        Edge.of("A LODGER MAY have owned a THING, if their years meet", "house 'l0-9s1t1h1 l10-19s9t9h9'", "thing 5 0 99 1111 0 = 0",
            "thing 5 9 10 5555 0 = 1", "may 0 = 3", "may 1 = 3");
    }

    private static void may() {
        Edge.of("LODGERS (bits) who MAY have owned a THING. BAD.", "may 0 = BAD", "may -1 = BAD", "thing 5 0 9 1111 0 = 0", "may 0 = 0",
            "may 1 = BAD", "may MOST = BAD", "may LEAST = BAD");
        Edge.of("LODGERS (bits) who MAY have owned a THING. BAD.", "house '" + "l0-9s1t1h1".repeat(8) + "'", "thing 5 9 9 1111 0 = 0",
            "may 0 = 255", "may -1 = BAD", "may 1 = BAD");
    }

    private static void fewest() {
        String sentence = "The fewest LODGERS of whom for each THING one MAY have owned it; the first such (by bits) by asked().";
        Edge.of(sentence, "fewest = 0 tells 0", "house 'l0-9s1t1h1'", "fewest = 0 tells 0", "thing 5 0 9 1111 0 = 0", "fewest = 1 tells 1",
            "thing 5 9 9 1111 0 = 1", "fewest = 1 tells 1");
        Edge.of(sentence, "house 'l0-9s1t1h1 l0-9s1t1h1'", "thing 5 0 9 1111 0 = 0", "fewest = 1 tells 1");
        Edge.of(sentence, "house 'l0-9s1t1h1 l5-14s1t1h1 l10-19s1t1h1'", "thing 5 9 9 1111 0 = 0", "fewest = 1 tells 1",
            "thing 5 10 10 1111 0 = 1", "fewest = 1 tells 2", "thing 5 0 0 1111 0 = 2", "fewest = 2 tells 3", "thing 5 19 19 1111 0 = 3",
            "fewest = 2 tells 5");
        // 0 and 1 could have owned both, but 2 alone could, too
        Edge.of(sentence, "house 'l0-9s1t1h1 l10-19s1t1h1 l5-15s1t1h1'", "thing 5 9 9 1111 0 = 0", "thing 5 10 10 1111 0 = 1", "fewest = 1 tells 4",
            "thing 5 0 0 1111 0 = 2", "fewest = 2 tells 3", "book 3 = 0", "thing 5 9 10 1111 0 = 0", "fewest = 1 tells 1");
    }

    private static void fewestOfEight() {
        StringBuilder book = new StringBuilder();
        for (int l = 0; l < 8; l++) book.append('l').append(l).append('-').append(l).append("s1t1h1");
        String sentence = "The fewest LODGERS of whom for each THING one MAY have owned it";
        Edge.of(sentence, "house '" + book + "'", "thing 5 0 0 1111 0 = 0", "thing 5 1 1 1111 0 = 1", "thing 5 2 2 1111 0 = 2",
            "thing 5 3 3 1111 0 = 3", "thing 5 4 4 1111 0 = 4", "thing 5 5 5 1111 0 = 5", "thing 5 6 6 1111 0 = 6", "fewest = 7 tells 127",
            "thing 5 7 7 1111 0 = 7", "fewest = 8 tells 255", "thing 5 8 8 1111 0 = 8", "fewest = NOUGHT");
        // in pairs: {0, 1}, {2, 3}, ..: the first of 16 sets is 1 + 4 + 16 + 64
        Edge.of(sentence, "house '" + book + "'", "thing 5 0 1 1111 0 = 0", "thing 5 2 3 1111 0 = 1", "thing 5 4 5 1111 0 = 2",
            "thing 5 6 7 1111 0 = 3", "fewest = 4 tells 85", "thing 5 7 7 1111 0 = 4", "fewest = 4 tells 149");
    }

    private static void fewestNought() {
        Edge.of("NOUGHT: nobody for some THING.", "thing 5 0 9 1111 0 = 0", "fewest = NOUGHT", "fewest = NOUGHT");
        Edge.of("NOUGHT: nobody for some THING.", "house 'l10-20s1t1h1'", "thing 5 10 10 1111 0 = 0", "fewest = 1 tells 1",
            "thing 5 0 9 1111 0 = 1", "fewest = NOUGHT", "book 3 = 0", "fewest = 0 tells 0", "thing 5 21 21 1111 0 = 0", "fewest = NOUGHT",
            "thing 5 20 20 1111 0 = 1", "fewest = NOUGHT");
    }

    private static void fits() {
        String sentence = "In how many ways each THING can be given to one who MAY have owned it, told by many(): 1, or 0 (in none).";
        Edge.of(sentence, "fits = 1", "many = 1", "thing 5 0 9 1111 0 = 0", "fits = 0", "many = 0", "house 'l0-9s1t1h1 l9-19s1t1h1'",
            "many = 0", "fits = 1", "many = 1", "thing 5 9 9 1111 0 = 0", "many = 1", "fits = 1", "many = 2", "thing 5 8 8 1111 0 = 1",
            "fits = 1", "many = 2", "thing 5 0 99 1111 0 = 2", "fits = 1", "many = 4", "thing 5 20 20 1111 0 = 3", "fits = 0", "many = 0",
            "thing 5 9 9 1111 0 = 4", "fits = 0", "many = 0");
    }

    /** The most ways that there are: 8 LODGERS, 20 THINGS, so 2 to the 60th, and beside it. */
    private static void fitsMost() {
        String sentence = "In how many ways each THING can be given to one who MAY have owned it, told by many()";
        String book = "house '" + "l0-9s1t1h1".repeat(7) + "l0-8s1t1h1'";
        Edge.of(sentence, book, "10 x thing 5 0 0 1111 0", "fits = 1", "many = 1073741824", "thing 5 0 0 1111 0 = 10", "fits = 1",
            "many = 8589934592", "9 x thing 5 0 0 1111 0", "fits = 1", "many = 1152921504606846976", "thing 5 0 0 1111 0 = FULL",
            "many = 1152921504606846976");
        Edge.of(sentence, book, "19 x thing 5 0 0 1111 0", "thing 5 9 9 1111 0 = 19", "fits = 1", "many = 1008806316530991104");
        Edge.of(sentence, book, "19 x thing 5 0 0 1111 0", "thing 5 10 10 1111 0 = 19", "fits = 0", "many = 0");
    }

    /** All KEYS against some LOCKS by each WEAR, figure by figure. */
    private static void opensByFigures() {
        String sentence = "A KEY OPENS a LOCK, if each of its figures differs by 1 at most, and all differences together are no more than WEAR.";
        int[] locks = {3333, 1155, 5551, 1111, 2424};
        for (int key = 1111; key <= 5555; key++) {
            if (!Integer.toString(key).matches("[1-5]{4}")) continue;
            LostRoom x = room("k3333^0k1155^0k5551^0k1111^0k2424^0");
            x.thing(5, 0, 9, key, 0);
            for (int wear = 0; wear <= 4; wear++) {
                x.wear(wear);
                int want = 0;
                for (int t = 0; t < locks.length; t++) if (opens(key, locks[t], wear)) want |= 1 << t;
                Check.due(Edge.said(sentence) + ": key " + key + " by wear " + wear, x.opens(0), want);
            }
        }
    }

    private static boolean opens(int key, int lock, int wear) {
        String a = Integer.toString(key);
        String b = Integer.toString(lock);
        int all = 0;
        for (int i = 0; i < 4; i++) {
            int off = Math.abs(a.charAt(i) - b.charAt(i));
            if (off >= 2) return false;
            all += off;
        }
        return all <= wear;
    }

    private static void opensByWear() {
        String sentence = "all differences together are no more than WEAR";
        String[] keys = {"3333", "3334", "3344", "3444", "4444", "2424"};
        int[] off = {0, 1, 2, 3, 4, 4};
        for (int i = 0; i < keys.length; i++) {
            List<String> steps = new ArrayList<>(List.of("house 'k3333^0'", "thing 5 0 9 " + keys[i] + " 0 = 0"));
            // WEAR is 1 at first
            steps.add("opens 0 = " + (off[i] <= 1 ? 1 : 0));
            for (int wear = 4; wear >= 0; wear--) {
                steps.add("wear " + wear);
                steps.add("opens 0 = " + (off[i] <= wear ? 1 : 0));
            }
            steps.add("wear 5 = BAD");
            steps.add("opens 0 = " + (off[i] == 0 ? 1 : 0));
            Edge.of(sentence, steps);
        }
        Edge.of("if each of its figures differs by 1 at most", "house 'k3333^0'", "wear 4 = 1", "thing 5 0 9 5333 0 = 0",
            "thing 5 0 9 3533 0 = 1", "thing 5 0 9 3353 0 = 2", "thing 5 0 9 3335 0 = 3", "thing 5 0 9 1333 0 = 4", "opens 0 = 0",
            "opens 1 = 0", "opens 2 = 0", "opens 3 = 0", "opens 4 = 0");
    }

    private static void opens() {
        String sentence = "TRUNKS (bits) whose LOCK a KEY OPENS. BAD; UNLIKE: a THING that is no KEY.";
        Edge.of(sentence, "house 'l0-9s1t1h1 k3333^0'", "thing 1 0 9 1 0 = 0", "thing 2 0 9 1 1 = 1", "thing 3 0 9 11 0 = 2",
            "thing 4 0 9 1 2 = 3", "thing 5 0 9 3333 0 = 4", "opens 0 = UNLIKE", "opens 1 = UNLIKE", "opens 2 = UNLIKE", "opens 3 = UNLIKE",
            "opens 4 = 1", "opens 5 = BAD", "opens -1 = BAD", "opens MOST = BAD", "opens LEAST = BAD");
        Edge.of(sentence, "opens 0 = BAD", "thing 5 0 9 1111 0 = 0", "opens 0 = 0", "house '" + "k1111^0".repeat(8) + "'", "opens 0 = BAD",
            "thing 5 0 9 1112 0 = 0", "opens 0 = 255");
    }

    private static void strange() {
        String sentence = "How many KEYS lie in a TRUNK that they do not OPEN, and OPEN another one; the first by asked() (NONE).";
        Edge.of(sentence, "house 'k2222^0k4444^0k2222^0'", "thing 5 0 9 2222 0 = 0", "thing 5 0 9 4444 0 = 1", "thing 5 0 9 2233 0 = 2",
            "strange = 0 tells NONE", "lies 0 1 false = 1", "strange = 1 tells 0", "lies 0 2 false = 1", "strange = 0 tells NONE",
            "lies 1 1 false = 1", "strange = 0 tells NONE", "lies 1 2 true = 1", "strange = 1 tells 1", "lies 2 1 false = 1",
            "strange = 1 tells 1", "wear 2 = 1", "strange = 2 tells 1", "wear 0 = 2", "lies 1 NONE true = 1", "strange = 0 tells NONE",
            "lies 0 1 false = 1", "strange = 1 tells 0", "wear 4 = 0", "strange = 2 tells 0");
    }

    private static void strangeNone() {
        String sentence = "How many KEYS lie in a TRUNK that they do not OPEN, and OPEN another one; the first by asked() (NONE).";
        Edge.of(sentence, "strange = 0 tells NONE", "house 'k5555^0'", "strange = 0 tells NONE", "thing 5 0 9 1111 0 = 0",
            "strange = 0 tells NONE", "lies 0 0 false = 1", "strange = 0 tells NONE");
        Edge.of(sentence, "house 'k2222^0k4444^0'", "20 x thing 5 0 9 4444 0", "strange = 0 tells NONE", "lies 19 0 false = 1",
            "strange = 1 tells 19", "lies 18 0 true = 1", "strange = 2 tells 18", "lies 0 0 true = 1", "strange = 3 tells 0");
        List<String> steps = new ArrayList<>(List.of("house 'k2222^0k4444^0'", "20 x thing 5 0 9 4444 0"));
        for (int i = 0; i < 20; i++) steps.add("1 x lies " + i + " 0 true");
        steps.add("strange = 20 tells 0");
        Edge.of(sentence, steps);
    }

    private static String trunks(int... heights) {
        StringBuilder book = new StringBuilder();
        for (int h : heights) book.append("k1111^").append(h);
        return book.toString();
    }

    private static void water() {
        String sentence = "The least LINE of water that FITS; the greatest by asked(). NONE: none FITS.";
        Edge.of(sentence, "water = 0 tells 10", "thing 5 0 9 1111 0 = 0", "water = 0 tells 10", "lies 0 NONE true = 1", "water = 0 tells 10");
        for (int h = 0; h <= 9; h++) {
            Edge.of("each other one in one of h or above", "house '" + trunks(h) + "'", "thing 1 0 9 1 0 = 0", "water = 0 tells 10",
                "lies 0 0 false = 1", "water = 0 tells " + h, "lies 0 0 true = 1", "water = " + (h + 1) + " tells 10",
                "thing 1 0 9 1 0 = 1", "lies 1 0 true = 1", "water = " + (h + 1) + " tells 10", "lies 1 0 false = 1", "water = NONE",
                "lies 0 NONE true = 1", "water = 0 tells " + h);
        }
    }

    /** A WET THING at each HEIGHT and one that is not at each other, by trying each LINE from 0 to 10. */
    private static void waterOfTwo() {
        for (int wet = 0; wet <= 9; wet++) for (int dry = 0; dry <= 9; dry++) {
            LostRoom x = room(trunks(wet, dry));
            x.thing(1, 0, 9, 1, 0);
            x.thing(1, 0, 9, 1, 0);
            x.lies(0, 0, true);
            x.lies(1, 1, false);
            int least = NONE;
            int greatest = NONE;
            for (int h = 0; h <= 10; h++) {
                if (wet >= h || dry < h) continue;
                if (least == NONE) least = h;
                greatest = h;
            }
            String sentence = "A LINE of water h (0 .. 10) FITS, if each WET THING that lies in a TRUNK does so in one of a HEIGHT below h";
            String call = Edge.said(sentence) + ": wet at " + wet + ", dry at " + dry;
            Check.due(call, x.water(), least);
            Check.due(call + ", greatest", x.asked(), least == NONE ? 0 : greatest);
        }
    }

    private static void waterNone() {
        Edge.of("NONE: none FITS.", "house '" + trunks(4, 5, 6) + "'", "thing 1 0 9 1 0 = 0", "thing 1 0 9 1 0 = 1", "lies 0 1 true = 1",
            "lies 1 2 false = 1", "water = 6 tells 6", "lies 1 1 false = 1", "water = NONE", "lies 1 0 false = 1", "water = NONE",
            "lies 1 NONE false = 1", "water = 6 tells 10", "lies 0 1 false = 1", "water = 0 tells 5");
    }

    private static void piling() {
        String sentence = "The first ORDER of TRUNKS (by places' TRUNKS) comes to a ROW (anew): how many ORDERS there are (as an int).";
        Edge.of(sentence, "ints 0 : 7 8 9", "piling 0 = 1", "ints 0 is", "house 'k1111^0'", "piling 0 = 1", "ints 0 is 0", "piling 5 = 1",
            "ints 5 is 0", "piling 6 = BAD", "piling -1 = BAD", "piling MOST = BAD", "piling LEAST = BAD");
        Edge.of(sentence, "house 'k1111^0k1111^0u0/1'", "piling 0 = 1", "ints 0 is 0 1", "house 'k1111^0k1111^0u1/0'", "piling 0 = 1",
            "ints 0 is 1 0", "house 'k1111^0k1111^0u1/0u1/0'", "piling 0 = 1", "ints 0 is 1 0", "house 'k1111^0k1111^0'", "piling 0 = 2",
            "ints 0 is 0 1", "count 7 = 1");
        Edge.of(sentence, "house '" + trunks(0, 0, 0, 0, 0, 0, 0, 0) + "'", "piling 0 = 40320", "ints 0 is 0 1 2 3 4 5 6 7");
        Edge.of(sentence, "house '" + trunks(0, 0, 0, 0, 0, 0, 0, 0) + "u7/0u7/1u7/2u7/3u7/4u7/5u7/6'", "piling 0 = 5040",
            "ints 0 is 7 0 1 2 3 4 5 6");
        Edge.of(sentence, "house '" + trunks(0, 0, 0, 0, 0, 0, 0, 0) + "u7/6u6/5u5/4u4/3u3/2u2/1u1/0'", "piling 0 = 1",
            "ints 0 is 7 6 5 4 3 2 1 0");
        Edge.of(sentence, "house '" + trunks(0, 0, 0, 0) + "u3/0u2/1'", "piling 0 = 6", "ints 0 is 2 1 3 0");
    }

    private static void pilingNone() {
        String sentence = "NONE: there is none (the ROW stays). BAD.";
        Edge.of(sentence, "ints 0 : 7 8", "house 'k1111^0k1111^0u0/1u1/0'", "piling 0 = NONE", "ints 0 is 7 8", "piling 1 = NONE",
            "ints 1 is missing", "piling 6 = BAD", "piling -1 = BAD");
        Edge.of(sentence, "house '" + trunks(0, 0, 0, 0, 0, 0, 0, 0) + "u0/1u1/2u2/3u3/4u4/5u5/6u6/7u7/0'", "piling 0 = NONE",
            "ints 0 is missing");
        Edge.of(sentence, "house '" + trunks(0, 0, 0, 0, 0, 0, 0, 0) + "u6/7u7/6'", "ints 0 :", "piling 0 = NONE", "ints 0 is");
    }

    /** Each way of up to three standings among four TRUNKS, by trying each row. */
    private static void pilingOfAll() {
        for (int one = 0; one < 16; one++) for (int two = 0; two < 16; two++) for (int three = 0; three < 16; three++) {
            int[] told = {one, two, three};
            StringBuilder book = new StringBuilder(trunks(0, 0, 0, 0));
            for (int u : told) if (u / 4 != u % 4) book.append('u').append(u / 4).append('/').append(u % 4);
            List<List<Integer>> orders = new ArrayList<>();
            orders(new ArrayList<>(), told, orders);
            LostRoom x = room(book.toString());
            String call = Edge.said("a row of all in which each comes behind those on which it stands") + ": piling of " + book;
            Check.due(call, x.piling(0), orders.isEmpty() ? NONE : orders.size());
            if (!orders.isEmpty()) Check.rowIs(x, call, 0, orders.get(0).stream().mapToInt(t -> t).toArray());
        }
    }

    private static void orders(List<Integer> begun, int[] told, List<List<Integer>> all) {
        if (begun.size() == 4) {
            all.add(List.copyOf(begun));
            return;
        }
        for (int t = 0; t < 4; t++) {
            if (begun.contains(t)) continue;
            boolean goes = true;
            for (int u : told) if (u / 4 != u % 4 && u % 4 == t) goes &= begun.contains(u / 4);
            if (!goes) continue;
            begun.add(t);
            orders(begun, told, all);
            begun.remove(begun.size() - 1);
        }
    }
}
