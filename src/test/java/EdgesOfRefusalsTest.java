import java.util.ArrayList;
import java.util.List;

/**
 * The edges of ANSWERS: the order of refusals, call by call, in a room that has as much as it can; and that what is refused
 * changes nothing (Edge looks at that behind each step).
 */
public final class EdgesOfRefusalsTest {
    private static final String ORDER = "Refused is, the first of these that fits, in this order";
    private static final String NOTHING_CHANGED = "What is refused changes nothing but finding(), findings().";

    public static void main(String[] args) {
        badAheadOfFindingsByRows();
        badAheadOfFindingsByTexts();
        badAheadOfFindingsByThings();
        badAheadOfFull();
        badAheadOfSpent();
        badAheadOfNone();
        findingsInTheirOrder();
        stateBehindNothing();
        fullBetweenFindings();
        refusedInAFullRoom();
        refusedInANewRoom();
        Check.end();
    }

    /** Ahead of steps: LODGERS, TRUNKS, 20 THINGS, 8 LINES, 10 BITS, 8 CLAIMS, ROWS 0 to 3, TEXTS 0 and 3; asked() 6, many() 0. */
    private static void full(String sentence, String... steps) {
        List<String> all = new ArrayList<>(List.of("house 'l0-9s1t1h1l5-9s2t2h2k1111^0k2222^6u0/1'", "17 x thing 4 0 9 1 2", "1 x thing 1 0 9 1 0",
            "1 x thing 2 0 9 1 2", "1 x thing 5 50 59 1111 0", "1 x lies 17 0 true", "1 x lies 18 1 false", "8 x line 1 0 9", "10 x bit 1 1 500 500",
            "ints 0 : 1 1", "ints 1 : 9 9 9", "ints 2 :", "ints 3 : 9 9", "8 x claim 3 0 0", "write 0 'x'", "1 x fits", "1 x water"));
        all.addAll(List.of(steps));
        Edge.of(sentence, all);
    }

    private static void badAheadOfFindingsByRows() {
        full(ORDER, "row 6 -1 = BAD", "row -1 -1 = BAD", "row 6 49 = BAD", "row 0 49 = BAD", "row 0 -1 = SIZE", "lay 6 -1 0 = BAD", "lay -1 48 0 = BAD",
            "at 6 -1 = BAD", "at -1 48 = BAD", "tear 6 = BAD", "tear -1 = BAD", "mean 6 = BAD", "mean -1 = BAD", "copy 6 -1 4 -1 -1 = BAD",
            "copy 4 -1 6 -1 -1 = BAD", "copy -1 0 4 0 -1 = BAD", "copy 4 0 -1 0 -1 = BAD", "moves 6 4 = BAD", "moves 4 6 = BAD", "moves 1 6 = BAD",
            "moves 3 6 = BAD", "moves -1 3 = BAD", "moves 3 -1 = BAD");
        full(ORDER, "claim 10 0 4 = BAD", "claim 3 2 4 = BAD", "claim 3 0 6 = BAD", "claim 10 0 2 = BAD", "claim 3 2 1 = BAD", "claim 10 0 0 = BAD",
            "claim 3 2 3 = BAD", "claim -1 -1 -1 = BAD");
    }

    private static void badAheadOfFindingsByTexts() {
        full(ORDER, "text 4 -1 = BAD", "text -1 -1 = BAD", "text 4 121 = BAD", "text 0 121 = BAD", "text 0 -1 = SIZE", "put 4 -1 0 = BAD",
            "put -1 120 0 = BAD", "put 1 -1 0 = NOTHING", "put 0 -1 0 = BEYOND", "fault 4 = BAD", "fault -1 = BAD", "fault 1 = NOTHING", "book 4 = BAD",
            "book -1 = BAD", "book 1 = NOTHING", "book 0 = STATE");
    }

    private static void badAheadOfFindingsByThings() {
        full(ORDER, "mark 20 5 = BAD", "mark -1 5 = BAD", "mark 17 0 = BAD", "mark 17 6 = BAD", "mark 17 -1 = BAD", "mark 20 0 = BAD", "mark 17 2 = UNLIKE",
            "mark 18 3 = UNLIKE", "opens 20 = BAD", "opens -1 = BAD", "opens 17 = UNLIKE", "opens 19 = 1", "fewest = NOUGHT");
    }

    private static void badAheadOfFull() {
        full(ORDER, "thing 0 0 9 1 1 = BAD", "thing 6 0 9 1 1 = BAD", "thing 1 9 8 1 1 = BAD", "thing 1 -1 9 1 1 = BAD", "thing 1 0 100 1 1 = BAD",
            "thing 1 0 9 0 1 = BAD", "thing 2 0 9 10 1 = BAD", "thing 2 0 9 1 10 = BAD", "thing 3 0 9 100 0 = BAD", "thing 3 0 9 11 2 = BAD",
            "thing 4 0 9 1 1 = BAD", "thing 4 0 9 1 0 = BAD", "thing 5 0 9 1110 1 = BAD", "thing 5 0 9 1111 1 = FULL", "thing 3 0 9 11 1 = FULL",
            "line 21 0 9 = BAD", "line -1 0 9 = BAD", "line 1 9 8 = BAD", "line 1 -1 9 = BAD", "line 1 0 100 = BAD", "line 1 0 9 = FULL");
        full(ORDER, "bit 0 0 0 0 = BAD", "bit 10 0 0 0 = BAD", "bit 1 -1 0 0 = BAD", "bit 1 10 0 0 = BAD", "bit 1 0 -1 0 = BAD", "bit 1 0 1000 0 = BAD",
            "bit 1 0 0 -1 = BAD", "bit 1 0 0 1000 = BAD", "bit 1 0 0 0 = FULL", "claim 10 0 0 = BAD", "claim 3 2 0 = BAD", "claim 3 0 6 = BAD",
            "claim 3 0 0 = FULL");
    }

    private static void badAheadOfSpent() {
        full(ORDER, "travellers = SPENT", "journey 1048576 = BAD", "journey -1 = BAD", "journey LEAST = BAD", "journey MOST = BAD", "journey 131071 = SPENT",
            "journey 2047 = SPENT", "journey 1048575 = SPENT", "journey 1023 = 0", "journey 1 = 1");
    }

    private static void badAheadOfNone() {
        // no SHARING, no ORDER, no LINE of water, no CLAIM
        Edge.of("NONE -9 (a ROW that something was to come to stays as it is then)", "house 'l0-9s1t1h1k1111^5k1111^5u0/1u1/0'", "thing 1 0 9 1 0 = 0",
            "thing 1 0 9 1 0 = 1", "lies 0 0 true = 1", "lies 1 0 false = 1", "ints 0 : 7 8", "piling 0 = NONE", "share 0 = NONE", "ints 0 is 7 8",
            "piling 1 = NONE", "share 1 = NONE", "ints 1 is missing", "piling 6 = BAD", "share 6 = BAD", "sure 0 = NONE", "sure 21 = BAD", "sure -1 = BAD",
            "next 0 = NONE", "next 21 = BAD", "next -1 = BAD", "water = NONE", "heir 0 1 = NONE", "heir 2 1 = BAD", "heir 0 0 = BAD", "heir 0 25 = BAD");
    }

    private static void findingsInTheirOrder() {
        full("BAD; NOTHING; BEYOND.", "lay 4 -1 0 = NOTHING", "lay 4 48 0 = NOTHING", "lay 0 2 0 = BEYOND", "lay 2 0 0 = BEYOND", "at 4 -1 = NOTHING",
            "at 5 48 = NOTHING", "at 0 -1 = BEYOND", "at 2 0 = BEYOND", "put 1 -1 0 = NOTHING", "put 2 120 0 = NOTHING", "put 0 1 0 = BEYOND");
        full("BAD; NOTHING; NOUGHT.", "mean 4 = NOTHING", "mean 2 = NOUGHT", "tear 4 = NOTHING");
        full("BAD; SIZE: n below 0; NOTHING: either; BEYOND: not so many there", "copy 4 -1 5 -1 -1 = SIZE", "copy 0 -1 0 -1 -1 = SIZE",
            "copy 4 -1 0 -1 0 = NOTHING", "copy 0 -1 4 -1 0 = NOTHING", "copy 4 9 5 9 9 = NOTHING", "copy 0 -1 0 0 0 = BEYOND", "copy 0 0 2 0 1 = BEYOND",
            "copy 2 0 0 0 1 = BEYOND", "copy 0 0 2 0 0 = 1");
        full("BAD; NOTHING; SIZE: not as many as TRUNKS; UNLIKE: no SHARING.", "moves 4 0 = NOTHING", "moves 1 0 = SIZE", "moves 2 0 = SIZE",
            "moves 3 0 = UNLIKE", "moves 0 3 = UNLIKE");
    }

    private static void stateBehindNothing() {
        full("(STATE behind NOTHING.)", "book 1 = NOTHING", "book 0 = STATE", "book 4 = BAD", "finding = 1", "findings 1 = 1", "count 2 = 20", "count 6 = 8");
    }

    private static void fullBetweenFindings() {
        full("FULL; UNLIKE: a KIND. (In this order.)", "claim 3 0 4 = NOTHING", "claim 3 0 1 = SIZE", "claim 3 0 2 = SIZE", "claim 3 0 3 = FULL",
            "claim 3 0 0 = FULL", "finding = 5", "findings 3 = 0", "count 6 = 8");
    }

    private static void refusedInAFullRoom() {
        full(NOTHING_CHANGED, "fits = 0", "asked = 6", "wear 5 = BAD", "wear -1 = BAD", "lodger 2 0 = BAD", "lodger 0 5 = BAD", "trunk 2 0 = BAD",
            "trunk 0 4 = BAD", "lies 20 0 false = BAD", "lies 17 2 false = BAD", "lies 17 -1 false = BAD", "told 20 0 = BAD", "told 0 5 = BAD",
            "may 20 = BAD", "piling 6 = BAD", "share 6 = BAD", "share 5 = NONE", "asked = 6", "trunk 0 3 tells 1");
        full(NOTHING_CHANGED, "ways 21 = BAD", "whose 2 0 = BAD", "whose 0 21 = BAD", "sure 21 = BAD", "next 21 = BAD", "lineOf 8 = BAD", "joins 10 0 = BAD",
            "joins 0 0 = BAD", "sheets 6 = BAD", "judge 8 = BAD", "heir 2 1 = BAD", "heir 0 0 = BAD", "heir 0 25 = BAD", "count 9 = BAD",
            "findings 0 = BAD", "findings 6 = BAD", "asked = 6", "opens 19 = 1", "wear 1 = 1");
    }

    private static void refusedInANewRoom() {
        Edge.of(NOTHING_CHANGED, "row 6 0 = BAD", "row 0 -1 = SIZE", "lay 0 0 1 = NOTHING", "at 0 0 = NOTHING", "tear 0 = NOTHING", "copy 0 0 1 0 0 = NOTHING",
            "mean 0 = NOTHING", "text 4 0 = BAD", "text 0 -1 = SIZE", "put 0 0 1 = NOTHING", "fault 0 = NOTHING", "book 0 = NOTHING", "wear 5 = BAD",
            "lodger 0 0 = BAD", "trunk 0 0 = BAD", "thing 3 0 9 11 0 = BAD", "lies 0 NONE false = BAD", "told 0 0 = BAD", "mark 0 1 = BAD", "may 0 = BAD",
            "opens 0 = BAD", "whose 0 0 = BAD", "next 0 = NONE", "moves 0 1 = NOTHING", "lineOf 0 = BAD", "joins 0 0 = BAD", "journey 1 = BAD",
            "claim 0 0 0 = BAD", "judge 0 = BAD", "heir 0 1 = BAD", "count 9 = BAD", "findings 0 = BAD", "count 7 = 0", "count 8 = 0");
    }
}
