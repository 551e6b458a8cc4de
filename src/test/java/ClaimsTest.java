/** Promises 41 to 43: claim, judge, heir. */
public final class ClaimsTest {
    private static final int BAD = LostRoom.BAD, NONE = LostRoom.NONE, FULL = LostRoom.FULL;

    public static void main(String[] args) {
        claim();
        claimRefused();
        full();
        judge();
        judgeByLooks();
        heir();
        heirOfOne();
        heirTies();
        Check.end();
    }

    private static LostRoom room() {
        LostRoom x = Check.roomBy("l0-99s3t4h5 l0-99s3t4h5 k1111^0 k2222^0");
        x.thing(1, 0, 9, 3, 0);
        x.thing(2, 0, 9, 4, 5);
        x.thing(3, 0, 9, 67, 1);
        x.thing(4, 0, 9, 8, 9);
        x.thing(5, 0, 9, 1234, 0);
        for (int i = 0; i < 5; i++) x.lies(i, 0, i % 2 == 0);
        return x;
    }

    private static int claim(LostRoom x, int heir, int t, int... marks) {
        Check.row(x, 5, marks);
        return x.claim(heir, t, 5);
    }

    private static void claim() {
        LostRoom x = room();
        Check.due("claim 0", claim(x, 0, 0, 1, 3), 0);
        Check.due("claim 1", claim(x, 9, 1, 5, 1, 1, Integer.MIN_VALUE), 1);
        Check.due("claims", x.count(6), 2);
        int[] most = new int[48];
        for (int i = 0; i < 48; i += 2) {
            most[i] = 5;
            most[i + 1] = 1234;
        }
        Check.due("claim 2", claim(x, 3, 0, most), 2);
        Check.due("all 24 are true", x.judge(2), 24);
        Check.due("of 24", x.asked(), 24);
        Check.due("24 at least", x.heir(0, 24), 3);
        // the row may change behind it
        x.lay(5, 1, 7);
        Check.due("the claim stays", x.judge(2), 24);
        x.tear(5);
        Check.due("without the row, too", x.judge(2), 24);
    }

    private static void claimRefused() {
        LostRoom x = room();
        Check.row(x, 5, 6, 3, 1);
        Check.due("heir -1", x.claim(-1, 0, 4), BAD);
        Check.due("heir 10", x.claim(10, 0, 4), BAD);
        Check.due("trunk 2", x.claim(0, 2, 4), BAD);
        Check.due("trunk -1", x.claim(0, -1, 4), BAD);
        Check.due("trunk none", x.claim(0, NONE, 4), BAD);
        Check.due("row 6", x.claim(0, 0, 6), BAD);
        Check.due("row -1", x.claim(0, 0, -1), BAD);
        Check.finds(x, "missing row", 0, x.claim(0, 0, 4), 1);
        Check.finds(x, "not by twos", 0, x.claim(0, 0, 5), 5);
        x.row(5, 0);
        Check.finds(x, "no marks", 1, x.claim(0, 0, 5), 5);
        Check.finds(x, "kind 0", 0, claim(x, 0, 0, 1, 3, 0, 3), 3);
        Check.finds(x, "kind 6", 1, claim(x, 0, 0, 6, 3), 3);
        Check.finds(x, "kind -1", 2, claim(x, 0, 0, 1, 3, 2, 2, -1, 3), 3);
        Check.due("no claims", x.count(6), 0);
    }

    private static void full() {
        LostRoom x = room();
        for (int i = 0; i < 8; i++) Check.due("claim " + i, claim(x, i, 0, 1, 3), i);
        Check.due("a ninth", claim(x, 8, 0, 1, 3), FULL);
        Check.due("FULL is ahead of UNLIKE", claim(x, 8, 0, 6, 3), FULL);
        Check.due("SIZE is ahead of FULL", claim(x, 8, 0, 1), LostRoom.FINDING);
        Check.due("by SIZE", x.finding(), 5);
        Check.due("NOTHING is ahead of FULL", x.claim(8, 0, 4), LostRoom.FINDING);
        Check.due("by NOTHING", x.finding(), 1);
        Check.due("BAD is ahead of FULL", x.claim(10, 0, 5), BAD);
        Check.due("eight", x.count(6), 8);
    }

    private static void judged(LostRoom x, int right, int of, int... marks) {
        int c = claim(x, 1, 0, marks);
        Check.due("judge " + c, x.judge(c), right);
        Check.due("judge " + c + " of", x.asked(), of);
    }

    private static void judge() {
        LostRoom x = room();
        Check.due("judge 0", x.judge(0), BAD);
        judged(x, 1, 1, 1, 3);
        judged(x, 6, 6, 1, 3, 2, 45, 2, 67, 3, 1, 4, 89, 5, 1234);
        judged(x, 0, 5, 1, 4, 2, 54, 3, 0, 4, 98, 5, 1235);
        judged(x, 0, 3, 3, 67, 3, 45, 2, 1);
        judged(x, 2, 4, 1, 3, 1, 2, 1, 3, 5, 3);
        Check.due("judge 5", x.judge(5), BAD);
        Check.due("judge -1", x.judge(-1), BAD);
        Check.due("refused leaves asked", x.asked(), 4);
        Check.due("in the other trunk", claim(x, 1, 1, 1, 3), 5);
        Check.due("nothing is true", x.judge(5), 0);
        x.lies(0, 1, false);
        Check.due("now it is", x.judge(5), 1);
        Check.due("and there no more", x.judge(0), 0);
        x.lies(0, NONE, false);
        Check.due("on the floor for nobody", x.judge(5), 0);
    }

    /** Numbers with which a refused call answers are told by no THING. */
    private static void judgeByLooks() {
        LostRoom x = room();
        int[] marks = new int[40];
        int i = 0;
        for (int kind = 1; kind <= 5; kind++) {
            for (int number : new int[] {-1, -3, -9, 0}) {
                marks[i] = kind;
                marks[i + 1] = number;
                i += 2;
            }
        }
        judged(x, 0, 20, marks);
        LostRoom bare = Check.roomBy("k1111^0");
        Check.due("claim of an empty trunk", claim(bare, 1, 0, marks), 0);
        Check.due("nothing true in it", bare.judge(0), 0);
    }

    private static void heir() {
        LostRoom x = room();
        x.at(0, 0);
        Check.due("no claim", x.heir(0, 1), NONE);
        claim(x, 7, 0, 1, 3, 2, 45, 4, 1);
        claim(x, 4, 0, 1, 3, 2, 45, 5, 1234);
        claim(x, 5, 1, 1, 3, 2, 45, 5, 1234, 4, 89);
        Check.due("three true", x.heir(0, 1), 4);
        Check.due("how many", x.asked(), 3);
        Check.due("three at least", x.heir(0, 3), 4);
        Check.tells(x, "something else", x.at(5, 0), 1);
        Check.due("four at least", x.heir(0, 4), NONE);
        Check.due("none is true there", x.heir(1, 1), NONE);
        Check.due("NONE leaves asked", x.asked(), 1);
        Check.due("heir 2", x.heir(2, 1), BAD);
        Check.due("heir -1", x.heir(-1, 1), BAD);
        Check.due("none at least", x.heir(0, 0), BAD);
        Check.due("25 at least", x.heir(0, 25), BAD);
        Check.due("24 at least", x.heir(0, 24), NONE);
    }

    private static void heirOfOne() {
        LostRoom x = room();
        claim(x, 3, 0, 1, 3);
        Check.due("one claim", x.heir(0, 1), 3);
        Check.due("one mark", x.asked(), 1);
        claim(x, 2, 1, 1, 3);
        x.lies(0, 1, false);
        Check.due("none there now", x.heir(0, 1), NONE);
        Check.due("but there", x.heir(1, 1), 2);
    }

    private static void heirTies() {
        LostRoom x = room();
        claim(x, 4, 0, 1, 3);
        claim(x, 4, 0, 2, 45);
        Check.due("two of one heir", x.heir(0, 1), 4);
        claim(x, 0, 0, 5, 1234);
        Check.due("and one of another", x.heir(0, 1), NONE);
        claim(x, 4, 0, 5, 1234);
        Check.due("and the first again", x.heir(0, 1), NONE);
        claim(x, 0, 0, 5, 1234);
        Check.due("and the other again", x.heir(0, 1), NONE);
        claim(x, 0, 0, 5, 1234, 1, 3);
        Check.due("a better one", x.heir(0, 1), 0);
        Check.due("by two", x.asked(), 2);
        claim(x, 8, 0, 5, 1, 2, 67);
        Check.due("a worse one behind", x.heir(0, 1), 0);
    }
}
