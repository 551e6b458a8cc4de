import java.util.ArrayList;
import java.util.List;

/** The edges of promises 26 to 31, sentence by sentence: SHARINGS of TRUNKS. */
public final class EdgesOfSharingsTest {
    /** TRUNK 1 stands on 0, so LODGER 0, who left first, has 0; THINGS in 1 of years 0 to 9 are MOVED. */
    private static final String ONE_WAY = "house 'l0-9s1t1h1 l20-29s1t1h1 k1111^0 k1111^0 u0/1'";

    public static void main(String[] args) {
        noTwoTheSame();
        leftNoEarlier();
        leftNoEarlierAnew();
        leftNoEarlierOfAll();
        eachThing();
        mayNot();
        ofM();
        ofMost();
        ofNone();
        share();
        shareNone();
        ways();
        whose();
        sure();
        sureNone();
        next();
        nextOfAlike();
        nextNone();
        moves();
        movesInOrder();
        movesNoSharing();
        movesMost();
        refused();
        Check.end();
    }

    /** Years of an earlier BOOK are no matter. */
    private static void leftNoEarlierAnew() {
        String sentence = "so that who has one that stands on another one left (b) no earlier than who has that";
        Edge.of(sentence, "house 'l0-9s1t1h1l0-9s1t1h1k1111^0k1111^0u0/1'", "ways 0 = 2", "house 'l0-9s1t1h1l0-8s1t1h1k1111^0k1111^0u0/1'",
            "ways 0 = 1", "whose 0 0 = 2", "house 'l0-8s1t1h1l0-9s1t1h1k1111^0k1111^0u0/1'", "ways 0 = 1", "whose 0 0 = 1",
            "house 'l0-8s1t1h1l0-9s1t1h1k1111^0k1111^0u1/0'", "ways 0 = 1", "whose 0 0 = 2", "share 0 = 0", "ints 0 is 1 0");
    }

    private static void noTwoTheSame() {
        String sentence = "A SHARING gives each TRUNK a LODGER, no two the same one";
        int[][] ways = {{1, 0, 0, 0}, {1, 1, 0, 0}, {1, 2, 2, 0}, {1, 3, 6, 6}};
        for (int lodgers = 0; lodgers <= 3; lodgers++) for (int trunks = 0; trunks <= 3; trunks++) {
            Edge.of(sentence, "house '" + "l0-9s1t1h1".repeat(lodgers) + "k1111^0".repeat(trunks) + "'", "ways 0 = " + ways[lodgers][trunks],
                "ways 20 = " + ways[lodgers][trunks]);
        }
        // the most of each that a TEXT of 120 bytes has room for
        Edge.of(sentence, "house '" + "l0-9s1t1h1".repeat(7) + "k1111^0".repeat(7) + "'", "ways 0 = 5040", "share 0 = 0",
            "ints 0 is 0 1 2 3 4 5 6", "whose 6 0 = 127", "sure 0 = 127 tells 127", "next 0 = 0 tells 720");
        Edge.of(sentence, "house '" + "l0-9s1t1h1".repeat(8) + "k1111^0".repeat(5) + "'", "ways 0 = 6720", "share 0 = 0",
            "ints 0 is 0 1 2 3 4", "whose 0 0 = 255", "whose 4 0 = 255", "sure 0 = 0 tells 255", "next 0 = 0 tells 840");
        Edge.of(sentence, "house '" + "k1111^0".repeat(8) + "'", "ways 20 = 0", "share 0 = NONE");
        Edge.of(sentence, "house 'l0-9s1t1h1" + "k1111^0".repeat(8) + "'", "ways 20 = 0", "share 0 = NONE");
    }

    private static void leftNoEarlier() {
        String sentence = "so that who has one that stands on another one left (b) no earlier than who has that";
        for (int b = 19; b <= 21; b++) {
            String house = "house 'l0-20s1t1h1 l0-" + b + "s1t1h1 k1111^0 k1111^0 ";
            int up = (b >= 20 ? 1 : 0) | (b <= 20 ? 2 : 0);
            Edge.of(sentence, house + "u0/1'", "ways 0 = " + (b == 20 ? 2 : 1), "whose 0 0 = " + up, "whose 1 0 = " + (b == 20 ? 3 : 3 - up));
            Edge.of(sentence, house + "u1/0'", "ways 0 = " + (b == 20 ? 2 : 1), "whose 1 0 = " + up, "whose 0 0 = " + (b == 20 ? 3 : 3 - up));
            Edge.of(sentence, house + "u1/0u0/1'", "ways 0 = " + (b == 20 ? 2 : 0));
            Edge.of(sentence, house + "'", "ways 0 = 2");
        }
        // by b alone: an earlier a is no matter
        Edge.of(sentence, "house 'l19-20s1t1h1 l0-20s1t1h1 k1111^0 k1111^0 u0/1'", "ways 0 = 2");
        Edge.of(sentence, "house 'l0-0s1t1h1 l0-99s1t1h1 k1111^0 k1111^0 u0/1'", "ways 0 = 1", "share 0 = 0", "ints 0 is 0 1");
    }

    /** Three TRUNKS with each of two standings, four LODGERS two of whom left together, by trying each row. */
    private static void leftNoEarlierOfAll() {
        int[] left = {20, 30, 30, 10};
        for (int one = 0; one < 9; one++) for (int two = 0; two < 9; two++) {
            int[] told = {one, two};
            StringBuilder book = new StringBuilder("l0-20s1t1h1 l0-30s1t1h1 l0-30s1t1h1 l0-10s1t1h1 k1111^0k1111^0k1111^0");
            for (int u : told) if (u / 3 != u % 3) book.append('u').append(u / 3).append('/').append(u % 3);
            int all = 0;
            String call = Edge.said("who has one that stands on another one left (b) no earlier than who has that") + ": " + book;
            LostRoom x = Check.roomBy(book.toString());
            for (int row = 0; row < 64; row++) {
                int[] given = {row / 16, row / 4 % 4, row % 4};
                boolean goes = given[0] != given[1] && given[0] != given[2] && given[1] != given[2];
                for (int u : told) if (u / 3 != u % 3) goes &= left[given[u % 3]] >= left[given[u / 3]];
                if (goes) all++;
                Check.row(x, 0, given);
                Check.due(call + ", row " + row, x.moves(0, 1), goes ? 0 : LostRoom.FINDING);
            }
            Check.due(call, x.ways(0), all);
        }
    }

    private static void eachThing() {
        String sentence = "each THING (MOVED, on the floor, too) there is one of those LODGERS who MAY have owned it";
        String house = "house 'l0-9s1t1h1 l20-29s1t1h1 l40-49s1t1h1 k1111^0 k1111^0'";
        Edge.of(sentence, house, "thing 5 9 9 1111 0 = 0", "ways 0 = 4", "thing 5 20 20 1111 0 = 1", "ways 0 = 2", "sure 0 = 3 tells 3",
            "thing 5 49 49 1111 0 = 2", "ways 20 = 0");
        Edge.of(sentence, house, "thing 5 9 9 1111 0 = 0", "lies 0 1 false = 1", "ways 0 = 2", "whose 1 0 = 1", "ways 1 = 4",
            "whose 0 1 = 7", "whose 1 1 = 7", "lies 0 NONE true = 1", "ways 0 = 4");
        Edge.of(sentence, house, "thing 5 10 19 1111 0 = 0", "ways 20 = 0", "share 0 = NONE", "book 3 = 2", "ways 0 = 6");
        Edge.of(sentence, "house 'l0-9s1t1h1'", "ways 0 = 1", "share 0 = 0", "thing 5 0 9 1111 0 = 0", "ways 20 = 0", "share 1 = NONE");
        Edge.of(sentence, "thing 5 0 9 1111 0 = 0", "ways 20 = 0", "share 0 = NONE");
    }

    private static void mayNot() {
        String sentence = "MOVED are THINGS in a TRUNK that its LODGER MAY not have owned";
        Edge.of(sentence, ONE_WAY, "thing 5 9 9 1111 0 = 0", "share 0 = 0", "lies 0 1 false = 1", "share 0 = 1", "lies 0 0 true = 1",
            "share 0 = 0", "lies 0 NONE false = 1", "share 0 = 0", "thing 5 9 20 1111 0 = 1", "lies 1 1 false = 1", "share 0 = 0",
            "lies 1 0 false = 1", "share 0 = 0", "thing 5 20 20 1111 0 = 2", "lies 2 0 true = 1", "share 0 = 1");
    }

    private static void ofM() {
        String sentence = "OF m are SHARINGS in which m are MOVED at most";
        String house = "house 'l0-9s1t1h1 l20-29s1t1h1 k1111^0 k1111^0'";
        Edge.of(sentence, house, "thing 5 0 9 1111 0 = 0", "thing 5 0 9 1111 0 = 1", "lies 0 0 false = 1", "lies 1 0 false = 1",
            "ways 0 = 1", "ways 1 = 1", "ways 2 = 2", "ways 3 = 2", "whose 0 1 = 1", "whose 0 2 = 3", "whose 1 1 = 2", "whose 1 2 = 3",
            "next 1 = 0 tells 1", "sure 1 = 3 tells 3", "share 0 = 0");
        Edge.of(sentence, house, "thing 5 0 9 1111 0 = 0", "thing 5 0 9 1111 0 = 1", "lies 0 0 false = 1", "lies 1 1 false = 1",
            "ways 0 = 0", "ways 1 = 2", "ways 2 = 2", "sure 0 = NONE", "sure 1 = 3 tells 3", "next 0 = NONE", "next 1 = 0 tells 1",
            "whose 1 0 = 0", "whose 1 1 = 3", "share 0 = 1");
    }

    /** All 20 THINGS are MOVED in the only SHARING that there is. */
    private static void ofMost() {
        List<String> steps = new ArrayList<>(List.of(ONE_WAY, "20 x thing 5 0 9 1111 0"));
        for (int i = 0; i < 20; i++) steps.add("1 x lies " + i + " 1 false");
        steps.addAll(List.of("share 0 = 20", "ints 0 is 0 1", "ways 20 = 1", "ways 19 = 0", "ways 0 = 0", "whose 0 20 = 1",
            "whose 1 20 = 2", "whose 0 19 = 0", "whose 1 19 = 0", "sure 20 = 3 tells 3", "sure 19 = NONE", "next 20 = 0 tells 1",
            "next 19 = NONE", "lies 0 0 false = 1", "ways 19 = 1", "ways 18 = 0", "share 0 = 19"));
        Edge.of("How many SHARINGS OF m (0 .. 20) there are. BAD.", steps);
    }

    private static void ofNone() {
        Edge.of("A SHARING gives each TRUNK a LODGER", "ways 0 = 1", "ways 20 = 1", "share 0 = 0", "ints 0 is", "sure 0 = 0 tells 0",
            "next 0 = NONE", "next 20 = NONE", "moves 0 1 = 0", "ints 1 is", "whose 0 0 = BAD");
    }

    private static void share() {
        String sentence = "The fewest that are MOVED in a SHARING; the first of these comes to a ROW (anew; TRUNK by TRUNK its LODGER).";
        Edge.of(sentence, "house 'l0-9s1t1h1 l0-9s5t1h1 l0-9s9t1h1 k1111^0 k1111^0'", "ints 0 : 7 7 7", "share 0 = 0", "ints 0 is 0 1",
            "thing 1 0 9 9 0 = 0", "share 0 = 0", "ints 0 is 0 2", "lies 0 0 false = 1", "share 0 = 0", "ints 0 is 2 0",
            "thing 1 0 9 5 0 = 1", "share 0 = 0", "ints 0 is 2 1", "lies 1 0 false = 1", "share 0 = 1", "ints 0 is 1 2", "share 5 = 1",
            "ints 5 is 1 2");
        Edge.of("By its TRUNKS' LODGERS SHARINGS come one behind the other.",
            "house 'l0-9s9t1h1 l0-9s1t1h1 l0-9s1t1h1 k1111^0 k1111^0 k1111^0'", "share 0 = 0", "ints 0 is 0 1 2", "thing 1 0 9 9 0 = 0",
            "lies 0 1 false = 1", "share 0 = 0", "ints 0 is 1 0 2", "lies 0 2 false = 1", "share 0 = 0", "ints 0 is 1 2 0");
    }

    private static void shareNone() {
        Edge.of("NONE: there is no SHARING (the ROW stays). BAD.", "house 'l0-9s1t1h1 k1111^0 k1111^0'", "ints 0 : 7 8 9", "share 0 = NONE",
            "ints 0 is 7 8 9", "share 1 = NONE", "ints 1 is missing", "share 6 = BAD", "share -1 = BAD", "share MOST = BAD",
            "share LEAST = BAD");
        Edge.of("NONE: there is no SHARING (the ROW stays). BAD.", "house 'l0-8s1t1h1 l0-9s1t1h1 k1111^0 k1111^0 u0/1 u1/0'", "ints 0 :",
            "share 0 = NONE", "ints 0 is");
    }

    private static void ways() {
        Edge.of("How many SHARINGS OF m (0 .. 20) there are. BAD.", ONE_WAY, "ways 0 = 1", "ways 1 = 1", "ways 20 = 1", "ways 21 = BAD",
            "ways -1 = BAD", "ways MOST = BAD", "ways LEAST = BAD");
    }

    private static void whose() {
        Edge.of("LODGERS (bits) whom a TRUNK has in some SHARING OF m. BAD.", ONE_WAY, "whose 0 0 = 1", "whose 1 20 = 2", "whose 2 0 = BAD",
            "whose -1 0 = BAD", "whose MOST 0 = BAD", "whose LEAST 0 = BAD", "whose 0 21 = BAD", "whose 0 -1 = BAD", "whose 0 MOST = BAD",
            "whose 0 LEAST = BAD", "whose 2 21 = BAD");
        Edge.of("LODGERS (bits) whom a TRUNK has in some SHARING OF m. BAD.", "house 'l0-9s1t1h1 k1111^0 k1111^0'", "whose 0 20 = 0",
            "whose 1 20 = 0", "whose 2 20 = BAD");
    }

    private static void sure() {
        String sentence = "LODGERS (bits) who have some TRUNK in each SHARING OF m; those who have one in some by asked().";
        Edge.of(sentence, "house 'l0-9s1t1h1 l0-9s5t1h1 l0-9s9t1h1 k1111^0 k1111^0'", "sure 0 = 0 tells 7", "thing 1 0 9 9 0 = 0",
            "sure 0 = 4 tells 7", "lies 0 0 true = 1", "sure 0 = 4 tells 7", "thing 1 0 9 5 0 = 1", "sure 0 = 6 tells 6", "sure 20 = 6 tells 6",
            "sure 21 = BAD", "sure -1 = BAD", "sure MOST = BAD", "sure LEAST = BAD");
        Edge.of(sentence, "house 'l0-9s1t1h1 l0-9s5t1h1 k1111^0'", "thing 1 0 9 1 0 = 0", "thing 5 0 9 1111 0 = 1", "lies 1 0 false = 1",
            "sure 0 = 1 tells 1");
    }

    private static void sureNone() {
        Edge.of("those who have one in some by asked(). NONE: there is none. BAD.", "house 'l0-9s1t1h1 k1111^0 k1111^0'", "ints 0 : 7",
            "at 0 0 tells 7", "sure 0 = NONE", "sure 20 = NONE", "sure 21 = BAD", "sure -1 = BAD");
        Edge.of("those who have one in some by asked(). NONE: there is none. BAD.", ONE_WAY, "thing 5 9 9 1111 0 = 0", "lies 0 1 true = 1",
            "sure 0 = NONE", "sure 1 = 3 tells 3", "sure 0 = NONE");
    }

    private static void next() {
        String sentence = "that of whose LODGERS in SHARINGS OF m the one who is there in most of them is there in the fewest";
        Edge.of(sentence, ONE_WAY, "next 0 = 0 tells 1", "next 20 = 0 tells 1", "next 21 = BAD", "next -1 = BAD", "next MOST = BAD",
            "next LEAST = BAD");
        // TRUNK 0 is one's in both SHARINGS, 1 and 2 are each of two in one
        Edge.of(sentence, "house 'l0-9s1t1h1 l0-9s5t1h1 l0-9s9t1h1 k1111^0 k1111^0 k1111^0'", "thing 1 0 9 9 0 = 0", "lies 0 0 false = 1",
            "next 0 = 1 tells 1", "lies 0 1 false = 1", "next 0 = 0 tells 1", "lies 0 2 false = 1", "next 0 = 0 tells 1",
            "next 1 = 0 tells 2");
        // with all eight LODGERS: TRUNK 1 is sure, 0 and 2 are each of seven's in 6 of 42
        Edge.of(sentence, "house '" + "l0-9s9t1h1" + "l0-9s1t1h1".repeat(7) + "k1111^0k1111^0k1111^0'", "thing 1 0 9 9 0 = 0", "lies 0 1 false = 1",
            "ways 0 = 42", "ways 1 = 126", "next 0 = 0 tells 6", "whose 0 0 = 254", "whose 1 0 = 1", "whose 2 0 = 254", "sure 0 = 1 tells 255");
        // in four SHARINGS TRUNK 0 is one's in two, TRUNK 1 one's in two
        Edge.of(sentence, "house 'l0-9s1t1h1 l0-9s5t1h1 l0-8s5t1h1 k1111^0 k1111^0 u0/1'", "ways 0 = 4", "next 0 = 0 tells 2");
        // in three SHARINGS TRUNK 0 is each of two's in two and one, TRUNK 1 likewise
        Edge.of(sentence, "house 'l0-9s1t1h1 l0-8s5t1h1 l0-7s5t1h1 k1111^0 k1111^0 u0/1'", "ways 0 = 3", "next 0 = 0 tells 2",
            "thing 1 0 9 1 0 = 0", "ways 0 = 2", "next 0 = 0 tells 1");
        // one more TRUNK alone on the floor: it is each one's alike, and the two others are not
        Edge.of(sentence, "house 'l0-9s1t1h1 l0-8s5t1h1 l0-7s5t1h1 k1111^0 k1111^0 k1111^0 u0/1'", "ways 0 = 3", "next 0 = 2 tells 1");
    }

    private static void nextOfAlike() {
        for (int trunks = 1; trunks <= 3; trunks++) {
            int[] often = {0, 1, 2, 6};
            Edge.of("(of alike TRUNKS the first)", "house '" + "l0-9s1t1h1".repeat(trunks == 3 ? 4 : 3) + "k1111^0".repeat(trunks) + "'",
                "next 0 = 0 tells " + often[trunks]);
        }
        Edge.of("(of alike TRUNKS the first)", "house 'l0-9s1t1h1 l0-8s5t1h1 l0-7s5t1h1 k1111^0 k1111^0 k1111^0 u2/1'", "next 0 = 0 tells 1");
    }

    private static void nextNone() {
        String sentence = "NONE: there is no SHARING OF m, no TRUNK. BAD.";
        Edge.of(sentence, "next 0 = NONE", "next 21 = BAD", "next -1 = BAD", "house 'l0-9s1t1h1'", "next 0 = NONE", "lodger 0 1 tells 9",
            "next 0 = NONE", "next 20 = NONE", "house 'k1111^0'", "next 20 = NONE", "trunk 0 0 tells 1111", "next 20 = NONE", "next 21 = BAD");
        Edge.of(sentence, ONE_WAY, "thing 5 9 9 1111 0 = 0", "lies 0 1 true = 1", "next 0 = NONE", "next 1 = 0 tells 1", "next 0 = NONE");
    }

    private static void moves() {
        String sentence = "What is MOVED in a told SHARING (a ROW) comes to a ROW (anew) as pairs: a THING, and the first TRUNK "
            + "whose LODGER MAY have owned it: how many pairs.";
        String house = "house 'l0-9s1t1h1 l20-29s1t1h1 l0-9s1t1h1 k1111^0 k1111^0 k1111^0'";
        Edge.of(sentence, house, "ints 0 : 0 1 2", "ints 1 : 7 7 7", "moves 0 1 = 0", "ints 1 is", "thing 5 0 9 1111 0 = 0",
            "thing 5 20 20 1111 0 = 1", "moves 0 1 = 0", "lies 0 1 false = 1", "moves 0 1 = 1", "ints 1 is 0 0", "lies 1 2 true = 1",
            "moves 0 2 = 2", "ints 2 is 0 0 1 1", "ints 0 : 1 2 0", "moves 0 2 = 1", "ints 2 is 1 0", "moves 0 0 = 1", "ints 0 is 1 0");
        Edge.of(sentence, house, "ints 0 : 1 2 0", "thing 5 0 9 1111 0 = 0", "lies 0 0 false = 1", "moves 0 5 = 1", "ints 5 is 0 1",
            "ints 0 : 1 0 2", "moves 0 5 = 1", "ints 5 is 0 1", "ints 0 is 1 0 2", "lies 0 NONE false = 1", "moves 0 5 = 0", "ints 5 is");
    }

    private static void movesInOrder() {
        String sentence = "BAD; NOTHING; SIZE: not as many as TRUNKS; UNLIKE: no SHARING.";
        Edge.of(sentence, ONE_WAY, "ints 1 : 5", "ints 2 : 9 9", "moves 0 6 = BAD", "moves 6 0 = BAD", "moves -1 0 = BAD", "moves 0 -1 = BAD",
            "moves 0 1 = NOTHING", "moves 1 0 = SIZE", "moves 1 1 = SIZE", "moves 2 0 = UNLIKE", "moves 2 2 = UNLIKE", "moves 1 6 = BAD",
            "moves 2 6 = BAD", "ints 0 is missing", "ints 1 is 5", "ints 2 is 9 9", "ints 3 :", "moves 3 0 = SIZE", "ints 3 : 0 1 2",
            "moves 3 0 = SIZE", "ints 3 : 0 1", "moves 3 0 = 0", "moves 3 LEAST = BAD", "moves LEAST 3 = BAD");
        Edge.of(sentence, "row 0 0 = 0", "moves 0 1 = 0", "row 0 1 = 1", "moves 0 1 = SIZE", "row 0 0 = 0", "thing 1 0 9 1 0 = 0",
            "moves 0 1 = UNLIKE", "tear 0 = 1", "moves 0 1 = NOTHING");
    }

    private static void movesNoSharing() {
        String sentence = "UNLIKE: no SHARING.";
        String house = "house 'l0-9s1t1h1 l20-29s1t1h1 l0-9s1t1h1 k1111^0 k1111^0 u0/1'";
        String[] rows = {"0 0", "1 1", "0 3", "3 0", "-1 0", "0 -1", "1 0", "1 2", "0 8", "0 32", "33 1", "32 33", "MOST 1", "0 MOST", "LEAST 1",
            "0 LEAST", "NONE 0"};
        for (String row : rows) Edge.of(sentence, house, "ints 0 : " + row, "ints 1 : 7", "moves 0 1 = UNLIKE", "ints 1 is 7");
        for (String row : new String[] {"0 1", "0 2", "2 0", "2 1"}) Edge.of(sentence, house, "ints 0 : " + row, "moves 0 1 = 0", "ints 1 is");
        // a SHARING but for a THING of none of its LODGERS
        Edge.of(sentence, house, "thing 5 20 20 1111 0 = 0", "ints 0 : 0 2", "moves 0 1 = UNLIKE", "ints 0 : 0 1", "moves 0 1 = 0");
        Edge.of(sentence, "house 'l0-9s1t1h1 k1111^0 k1111^0'", "ints 0 : 0 0", "moves 0 1 = UNLIKE", "ints 0 : 0 1", "moves 0 1 = UNLIKE");
    }

    private static void movesMost() {
        List<String> steps = new ArrayList<>(List.of(ONE_WAY, "20 x thing 5 0 9 1111 0"));
        for (int i = 0; i < 20; i++) steps.add("1 x lies " + i + " 1 false");
        StringBuilder pairs = new StringBuilder("ints 1 is");
        for (int i = 0; i < 20; i++) pairs.append(' ').append(i).append(" 0");
        steps.addAll(List.of("ints 0 : 0 1", "moves 0 1 = 20", pairs.toString()));
        Edge.of("as pairs: a THING, and the first TRUNK whose LODGER MAY have owned it: how many pairs.", steps);
    }

    private static void refused() {
        String sentence = "NONE -9 (a ROW that something was to come to stays as it is then)";
        Edge.of(sentence, "house 'k1111^0 k1111^0 u0/1 u1/0'", "ints 0 : 1 2 3", "share 0 = NONE", "piling 0 = NONE", "ints 0 is 1 2 3",
            "share 1 = NONE", "piling 1 = NONE", "ints 1 is missing", "sure 0 = NONE", "next 0 = NONE");
    }
}
