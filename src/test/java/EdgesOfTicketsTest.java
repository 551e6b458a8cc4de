import java.util.ArrayList;
import java.util.List;

/** The edges of promises 39 and 40, sentence by sentence: TICKETS' journeys. */
public final class EdgesOfTicketsTest {
    public static void main(String[] args) {
        byTowns();
        byYears();
        yearsWithin();
        tenTickets();
        elevenTickets();
        travellers();
        sets();
        setsOfAll();
        withoutTickets();
        journeysOfThree();
        Check.end();
    }

    private static LostRoom tickets(int[]... told) {
        LostRoom x = new LostRoom();
        for (int[] one : told) x.thing(4, one[0], one[1], one[2], one[3]);
        return x;
    }

    private static void byTowns() {
        String sentence = "if it is from where that went to";
        for (int from = 1; from <= 9; from++) for (int to = 1; to <= 9; to++) {
            if (from == to) continue;
            LostRoom x = tickets(new int[] {0, 9, 4, 6}, new int[] {0, 9, from, to});
            boolean one = from == 6 || to == 4;
            String call = Edge.said(sentence) + ": 4 to 6, " + from + " to " + to;
            Check.due(call, x.journey(3), one ? 1 : 0);
            Check.due(call + ", travellers", x.travellers(), one ? 1 : 2);
        }
        Edge.of(sentence, "thing 4 0 9 1 9 = 0", "thing 4 0 9 9 1 = 1", "thing 4 0 9 1 9 = 2", "journey 3 = 1", "journey 5 = 0", "journey 6 = 1",
            "journey 7 = 1", "travellers = 1");
    }

    private static void byYears() {
        String sentence = "years can be told so that none is earlier than the one ahead (each year within its TICKET's)";
        for (int a = 18; a <= 22; a++) for (int b = a; b <= 22; b++) {
            LostRoom x = tickets(new int[] {20, 21, 1, 2}, new int[] {a, b, 2, 3});
            String call = Edge.said(sentence) + ": 20 to 21, then " + a + " to " + b;
            Check.due(call, x.journey(3), b >= 20 ? 1 : 0);
            Check.due(call + ", travellers", x.travellers(), b >= 20 ? 1 : 2);
        }
        Edge.of(sentence, "thing 4 99 99 1 2 = 0", "thing 4 0 98 2 3 = 1", "thing 4 0 99 2 4 = 2", "thing 4 0 0 5 1 = 3", "thing 4 99 99 4 5 = 4",
            "journey 3 = 0", "journey 5 = 1", "journey 9 = 1", "journey 21 = 1", "journey 29 = 1", "journey 25 = 0", "journey 13 = 1", "travellers = 2");
        // one journey is no matter for the next one, nor one BOOK's for the next one's
        Edge.of(sentence, "thing 4 50 50 1 2 = 0", "thing 4 50 50 2 1 = 1", "thing 4 0 9 1 2 = 2", "thing 4 0 9 2 1 = 3", "journey 3 = 1",
            "journey 12 = 1", "journey 15 = 1", "journey 12 = 1", "travellers = 1", "text 0 0 = 0", "book 0 = 0", "thing 4 0 9 1 2 = 0",
            "thing 4 0 9 3 1 = 1", "thing 4 0 9 2 3 = 2", "travellers = 1", "journey 3 = 1", "journey 7 = 1");
        // there and back: only one of the two rows goes by years
        Edge.of(sentence, "thing 4 20 20 1 2 = 0", "thing 4 19 19 2 1 = 1", "journey 3 = 1", "travellers = 1");
    }

    /** Three in a row: each fits behind the one ahead, but the last one has no year that is late enough for all. */
    private static void yearsWithin() {
        String sentence = "years can be told so that none is earlier than the one ahead (each year within its TICKET's)";
        for (int last = 28; last <= 31; last++) {
            LostRoom x = tickets(new int[] {30, 40, 1, 2}, new int[] {0, 99, 2, 3}, new int[] {0, last, 3, 4});
            Check.due(Edge.said(sentence) + ": 30, then any, then till " + last, x.journey(7), last >= 30 ? 1 : 0);
            Check.due(Edge.said(sentence) + ": travellers till " + last, x.travellers(), last >= 30 ? 1 : 2);
        }
        for (int first = 48; first <= 51; first++) {
            LostRoom x = tickets(new int[] {first, 99, 1, 2}, new int[] {40, 50, 2, 3}, new int[] {50, 50, 3, 4});
            Check.due(Edge.said(sentence) + ": from " + first + ", then till 50", x.journey(7), first <= 50 ? 1 : 0);
        }
    }

    private static void tenTickets() {
        String sentence = "The fewest TRAVELLERS make all TICKETS (10 at most; else SPENT).";
        Edge.of(sentence, "10 x thing 4 0 9 1 2", "travellers = 10", "journey 1023 = 0", "thing 4 0 9 2 1 = 10", "travellers = SPENT",
            "thing 1 0 9 1 0 = 11", "travellers = SPENT", "text 0 0 = 0", "book 0 = 0", "travellers = 0");
        Edge.of(sentence, "5 x thing 4 0 9 1 2", "5 x thing 4 0 9 2 1", "10 x thing 1 0 9 1 0", "travellers = 1", "journey 1023 = 1",
            "journey 1048575 = 1", "thing 1 0 9 1 0 = FULL");
        Edge.of(sentence, "10 x thing 5 0 9 1111 0", "9 x thing 4 0 9 1 2", "travellers = 9", "thing 4 0 9 2 3 = 19", "travellers = 9",
            "journey 1047552 = 0");
    }

    private static void elevenTickets() {
        String sentence = "Whether the TICKETS of a set of THINGS (bits) can be of one TRAVELLER: 1, 0. BAD; SPENT.";
        Edge.of(sentence, "6 x thing 4 0 9 1 2", "5 x thing 4 0 9 2 1", "travellers = SPENT", "journey 2047 = SPENT", "journey 2046 = 1",
            "journey 1023 = 0", "journey 2015 = 1", "journey 2048 = BAD", "journey -1 = BAD", "thing 1 0 9 1 0 = 11", "journey 4095 = SPENT",
            "journey 4094 = 1", "journey 2048 = 1", "journey 4096 = BAD");
        Edge.of(sentence, "20 x thing 4 0 9 1 2", "travellers = SPENT", "journey 1048575 = SPENT", "journey 1047552 = 0", "journey 524288 = 1",
            "journey 1048576 = BAD", "journey MOST = BAD", "journey LEAST = BAD", "journey -1 = BAD", "journey 0 = 1");
    }

    private static void travellers() {
        Edge.of("The fewest TRAVELLERS. SPENT: more than 10 TICKETS.", "travellers = 0", "thing 2 0 9 1 1 = 0", "travellers = 0",
            "thing 4 0 9 1 2 = 1", "travellers = 1", "thing 4 0 99 3 4 = 2", "travellers = 2", "thing 4 0 9 2 3 = 3", "travellers = 1",
            "thing 4 10 10 2 3 = 4", "travellers = 2", "thing 4 10 10 3 2 = 5", "travellers = 1", "thing 4 9 9 3 2 = 6", "travellers = 2");
        // ten towns apart, two by two
        Edge.of("The fewest TRAVELLERS. SPENT: more than 10 TICKETS.", "thing 4 0 9 1 2 = 0", "thing 4 0 9 2 1 = 1", "thing 4 0 9 3 4 = 2",
            "thing 4 0 9 4 3 = 3", "thing 4 0 9 5 6 = 4", "thing 4 0 9 6 5 = 5", "thing 4 0 9 7 8 = 6", "thing 4 0 9 8 7 = 7", "travellers = 4",
            "thing 4 0 9 9 1 = 8", "travellers = 4", "thing 4 0 9 8 9 = 9", "travellers = 3");
    }

    private static void sets() {
        Edge.of("Whether the TICKETS of a set of THINGS (bits) can be of one TRAVELLER: 1, 0.", "journey 0 = 1", "journey 1 = BAD",
            "journey -1 = BAD", "thing 4 0 9 1 2 = 0", "journey 0 = 1", "journey 1 = 1", "journey 2 = BAD", "journey 3 = BAD",
            "thing 4 0 9 3 4 = 1", "journey 1 = 1", "journey 2 = 1", "journey 3 = 0", "journey 4 = BAD", "journey MOST = BAD",
            "journey LEAST = BAD", "thing 4 0 9 2 3 = 2", "journey 7 = 1", "journey 5 = 1", "journey 6 = 1", "journey 8 = BAD",
            "journey 1073741824 = BAD");
    }

    /** With 20 THINGS: each set of one, and one more than all. */
    private static void setsOfAll() {
        List<String> steps = new ArrayList<>(List.of("19 x thing 5 0 9 1111 0", "thing 4 0 9 1 2 = 19"));
        for (int i = 0; i < 20; i++) steps.add("1 x journey " + (1 << i));
        steps.addAll(List.of("journey 524288 = 1", "journey 1048575 = 1", "journey 1048576 = BAD", "journey 2097152 = BAD"));
        Edge.of("a set of THINGS (bits)", steps);
    }

    private static void withoutTickets() {
        Edge.of("BAD; SPENT. (Without TICKETS 1.)", "journey 0 = 1", "thing 1 0 9 1 0 = 0", "thing 2 0 9 1 1 = 1", "thing 5 0 9 1111 0 = 2",
            "journey 0 = 1", "journey 7 = 1", "journey 1 = 1", "thing 4 0 9 1 2 = 3", "thing 4 0 9 1 2 = 4", "journey 24 = 0", "journey 0 = 1",
            "journey 7 = 1");
    }

    /** Three TICKETS of few towns and years, by trying each row of them. */
    private static void journeysOfThree() {
        int[][] towns = {{1, 2}, {2, 1}, {2, 3}, {3, 1}};
        int[][] years = {{0, 0}, {0, 1}, {1, 1}};
        int[][] rows = {{0, 1, 2}, {0, 2, 1}, {1, 0, 2}, {1, 2, 0}, {2, 0, 1}, {2, 1, 0}};
        for (int code = 0; code < 1728; code++) {
            int[][] told = new int[3][];
            for (int i = 0, rest = code; i < 3; i++, rest /= 12) {
                int[] town = towns[rest % 4];
                int[] year = years[rest % 12 / 4];
                told[i] = new int[] {year[0], year[1], town[0], town[1]};
            }
            boolean one = false;
            boolean two = false;
            for (int[] row : rows) {
                boolean second = told[row[0]][3] == told[row[1]][2] && told[row[0]][0] <= told[row[1]][1];
                int year = Math.max(told[row[0]][0], told[row[1]][0]);
                two |= second;
                one |= second && told[row[1]][3] == told[row[2]][2] && year <= told[row[2]][1];
            }
            LostRoom x = tickets(told);
            String call = Edge.said("one TICKET can come behind another one of the same TRAVELLER") + ": code " + code;
            Check.due(call, x.journey(7), one ? 1 : 0);
            Check.due(call + ", travellers", x.travellers(), one ? 1 : two ? 2 : 3);
        }
    }
}
