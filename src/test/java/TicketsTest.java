/** Promises 39 and 40: travellers, journey. */
public final class TicketsTest {
    private static final int BAD = LostRoom.BAD, SPENT = LostRoom.SPENT;

    public static void main(String[] args) {
        byTowns();
        byYears();
        sets();
        rounds();
        many();
        Check.end();
    }

    private static LostRoom tickets(int[]... told) {
        LostRoom x = new LostRoom();
        for (int[] one : told) x.thing(4, one[0], one[1], one[2], one[3]);
        return x;
    }

    private static void byTowns() {
        LostRoom x = new LostRoom();
        Check.due("no tickets", x.travellers(), 0);
        Check.due("the empty journey", x.journey(0), 1);
        Check.due("journey of no thing", x.journey(1), BAD);
        x.thing(1, 0, 9, 3, 0);
        Check.due("no tickets still", x.travellers(), 0);
        Check.due("journey of a cloth", x.journey(1), 1);
        x = tickets(new int[] {0, 9, 1, 2});
        Check.due("one ticket", x.travellers(), 1);
        Check.due("one journey", x.journey(1), 1);
        x = tickets(new int[] {0, 9, 1, 2}, new int[] {0, 9, 3, 2});
        Check.due("two to one town", x.travellers(), 2);
        Check.due("no journey", x.journey(3), 0);
        x = tickets(new int[] {0, 9, 1, 2}, new int[] {0, 9, 1, 3});
        Check.due("two from one town", x.travellers(), 2);
        x = tickets(new int[] {0, 9, 1, 2}, new int[] {0, 9, 3, 1});
        Check.due("the second is ahead", x.travellers(), 1);
        Check.due("one journey of two", x.journey(3), 1);
    }

    private static void byYears() {
        Check.due("later", tickets(new int[] {0, 9, 1, 2}, new int[] {20, 29, 2, 3}).travellers(), 1);
        Check.due("earlier", tickets(new int[] {20, 29, 1, 2}, new int[] {0, 19, 2, 3}).travellers(), 2);
        Check.due("in the same year", tickets(new int[] {20, 29, 1, 2}, new int[] {0, 20, 2, 3}).travellers(), 1);
        Check.due("in year 0", tickets(new int[] {0, 0, 1, 2}, new int[] {0, 0, 2, 3}).travellers(), 1);
        Check.due("in year 99", tickets(new int[] {99, 99, 1, 2}, new int[] {0, 99, 2, 3}).travellers(), 1);
        Check.due("by town 9", tickets(new int[] {0, 9, 9, 8}, new int[] {0, 9, 8, 9}, new int[] {0, 9, 9, 1}).travellers(), 1);
        // each fits behind the one ahead of it, but the third can't be as late as the first
        LostRoom x = tickets(new int[] {20, 29, 1, 2}, new int[] {0, 99, 2, 3}, new int[] {10, 19, 3, 4});
        Check.due("years of all three", x.journey(7), 0);
        Check.due("years of two", x.journey(3), 1);
        Check.due("years of two others", x.journey(6), 1);
        Check.due("two travellers", x.travellers(), 2);
    }

    private static void sets() {
        LostRoom x = tickets(new int[] {0, 9, 1, 2}, new int[] {0, 9, 2, 3}, new int[] {0, 9, 3, 4});
        x.thing(2, 0, 9, 3, 1);
        Check.due("all three", x.journey(7), 1);
        Check.due("with the letter", x.journey(15), 1);
        Check.due("the letter", x.journey(8), 1);
        Check.due("with a gap", x.journey(5), 0);
        Check.due("with a gap and the letter", x.journey(13), 0);
        Check.due("journey 16", x.journey(16), BAD);
        Check.due("journey -1", x.journey(-1), BAD);
        Check.due("journey least", x.journey(Integer.MIN_VALUE), BAD);
        Check.due("journey most", x.journey(Integer.MAX_VALUE), BAD);
        Check.due("nothing told", x.asked(), 0);
    }

    private static void rounds() {
        LostRoom x = tickets(new int[] {0, 9, 1, 2}, new int[] {0, 9, 2, 1}, new int[] {0, 9, 3, 4}, new int[] {0, 9, 4, 3});
        Check.due("two rounds apart", x.travellers(), 2);
        Check.due("one round", x.journey(3), 1);
        Check.due("the other", x.journey(12), 1);
        x.thing(4, 0, 9, 2, 3);
        Check.due("a bridge one way", x.travellers(), 1);
        Check.due("all five", x.journey(31), 1);
        x.thing(4, 0, 9, 2, 3);
        Check.due("two bridges one way", x.travellers(), 2);
        Check.due("not all six", x.journey(63), 0);
        x.thing(4, 0, 9, 3, 2);
        Check.due("and one back", x.travellers(), 1);
    }

    private static void many() {
        LostRoom x = new LostRoom();
        for (int i = 0; i < 10; i++) x.thing(4, i, 9, 1 + i % 2, 2 - i % 2);
        Check.due("ten there and back", x.travellers(), 1);
        Check.due("a journey of ten", x.journey(1023), 1);
        Check.due("five one way", x.journey(341), 0);
        x.thing(1, 0, 9, 3, 0);
        Check.due("a cloth is no ticket", x.travellers(), 1);
        x.thing(4, 0, 9, 1, 2);
        Check.due("eleven", x.travellers(), SPENT);
        Check.due("a journey of eleven", x.journey((1 << 12) - 1), SPENT);
        Check.due("a journey of ten of them", x.journey((1 << 11) - 1), 1);
        Check.due("ten of them without the first", x.journey((1 << 12) - 2), 1);
        Check.due("BAD is ahead of SPENT", x.journey(1 << 12), BAD);
        Check.due("SPENT is no finding", x.finding(), 0);
        LostRoom y = new LostRoom();
        for (int i = 0; i < 10; i++) y.thing(4, 0, 9, 1, 2);
        Check.due("ten apart", y.travellers(), 10);
        LostRoom z = new LostRoom();
        for (int i = 0; i < 20; i++) z.thing(4, 0, 9, 1 + i % 2, 2 - i % 2);
        Check.due("twenty", z.travellers(), SPENT);
        Check.due("a journey of twenty", z.journey((1 << 20) - 1), SPENT);
        Check.due("the last ten", z.journey(1023 << 10), 1);
    }
}
