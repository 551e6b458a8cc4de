/** Promises 26 to 31: share, ways, whose, sure, next, moves. */
public final class SharingsTest {
    private static final int BAD = LostRoom.BAD, NONE = LostRoom.NONE;

    public static void main(String[] args) {
        byYears();
        fewestMoved();
        everyThingHasAnOwner();
        noSharing();
        noTrunks();
        afterChanges();
        afterBooks();
        sure();
        next();
        moves();
        movesRefused();
        refused();
        Check.end();
    }

    /** TRUNK 1 stands on 0: who has it left no earlier; lodgers 1 and 2 left in the same year. */
    private static void byYears() {
        LostRoom x = Check.roomBy("l0-40s1t1h1 l0-30s1t1h1 l5-30s1t1h1 k1111^0 k1111^0 u0/1");
        Check.due("share", x.share(3), 0);
        Check.rowIs(x, "share", 3, 1, 0);
        Check.due("ways", x.ways(0), 4);
        Check.due("ways 20", x.ways(20), 4);
        Check.due("whose 0", x.whose(0, 0), 6);
        Check.due("whose 1", x.whose(1, 0), 7);
        LostRoom y = Check.roomBy("l0-40s1t1h1 l0-30s1t1h1 l5-30s1t1h1 k1111^0 k1111^0 u1/0");
        Check.due("share the other way", y.share(3), 0);
        Check.rowIs(y, "share the other way", 3, 0, 1);
        Check.due("whose 0 the other way", y.whose(0, 0), 7);
        Check.due("whose 1 the other way", y.whose(1, 0), 6);
        LostRoom z = Check.roomBy("l0-40s1t1h1 l0-30s1t1h1 k1111^0 k1111^0 u0/1 u1/0");
        Check.due("round and round", z.share(3), NONE);
        LostRoom alike = Check.roomBy("l0-40s1t1h1 l7-40s1t1h1 k1111^0 k1111^0 u0/1 u1/0");
        Check.due("round, but all left together", alike.ways(0), 2);
    }

    /** Each TRUNK holds one CLOTH of the other's size and one TRUNK more a KEY of nobody's years but one's. */
    private static LostRoom crossed() {
        LostRoom x = Check.roomBy("l0-99s1t1h1 l0-99s5t1h1 l50-99s9t1h1 k1111^0 k1111^0");
        x.thing(1, 0, 99, 5, 0);
        x.thing(1, 0, 99, 1, 0);
        x.thing(1, 0, 99, 1, 0);
        x.lies(0, 0, false);
        x.lies(1, 0, false);
        x.lies(2, 1, true);
        return x;
    }

    private static void fewestMoved() {
        LostRoom x = crossed();
        Check.due("share", x.share(0), 1);
        Check.rowIs(x, "share", 0, 1, 0);
        int[] ways = {0, 1, 2, 2};
        for (int m = 0; m < ways.length; m++) Check.due("ways " + m, x.ways(m), ways[m]);
        Check.due("ways 20", x.ways(20), 2);
        Check.due("whose 0 1", x.whose(0, 1), 2);
        Check.due("whose 0 0", x.whose(0, 0), 0);
        Check.due("whose 0 2", x.whose(0, 2), 3);
        Check.due("whose 1 2", x.whose(1, 2), 3);
        LostRoom alike = Check.roomBy("l0-99s1t1h1 l0-99s1t1h1 l0-99s1t1h1 k1111^0 k1111^0");
        Check.due("all alike", alike.share(0), 0);
        Check.rowIs(alike, "the first of all alike", 0, 0, 1);
        Check.due("six ways", alike.ways(0), 6);
    }

    /** A THING on the floor and a MOVED one must be one of those LODGERS', too. */
    private static void everyThingHasAnOwner() {
        LostRoom x = Check.roomBy("l0-9s1t1h1 l20-29s1t1h1 l40-49s1t1h1 k1111^0 k1111^0");
        x.thing(5, 40, 41, 1111, 0);
        Check.due("ways by the floor", x.ways(0), 4);
        Check.due("share by the floor", x.share(0), 0);
        Check.rowIs(x, "share by the floor", 0, 0, 2);
        x.lies(0, 0, false);
        Check.due("ways in 0", x.ways(0), 2);
        Check.due("share in 0", x.share(0), 0);
        Check.rowIs(x, "share in 0", 0, 2, 0);
        Check.due("ways in 0, moved", x.ways(1), 4);
        x.thing(5, 0, 9, 1111, 0);
        x.thing(5, 20, 29, 1111, 0);
        Check.due("three owners for two trunks", x.share(0), NONE);
        Check.rowIs(x, "the row stays", 0, 2, 0);
        Check.due("no ways", x.ways(20), 0);
        LostRoom y = Check.roomBy("l0-9s1t1h1 l20-29s1t1h1 k1111^0");
        y.thing(5, 50, 51, 1111, 0);
        Check.due("nobody's thing", y.ways(20), 0);
    }

    private static void noSharing() {
        LostRoom x = Check.roomBy("l0-9s1t1h1 k1111^0 k1111^0");
        Check.row(x, 0, 4);
        x.at(0, 0);
        Check.due("too few lodgers", x.share(0), NONE);
        Check.rowIs(x, "the row stays", 0, 4);
        Check.due("share to a missing row", x.share(1), NONE);
        Check.rowMissing(x, "share", 1);
        Check.due("no ways", x.ways(20), 0);
        Check.due("whose: nobody's", x.whose(1, 20), 0);
        x.at(0, 0);
        Check.due("sure", x.sure(20), NONE);
        Check.due("next", x.next(20), NONE);
        Check.due("NONE leaves asked", x.asked(), 4);
    }

    private static void noTrunks() {
        LostRoom x = Check.roomBy("l0-9s1t1h1");
        Check.row(x, 0, 4);
        x.at(0, 0);
        Check.due("share", x.share(0), 0);
        Check.rowIs(x, "share", 0);
        Check.due("one way", x.ways(0), 1);
        Check.due("nothing to open", x.next(0), NONE);
        Check.due("next leaves asked", x.asked(), 4);
        Check.due("sure of nobody", x.sure(0), 0);
        Check.due("who has one in some", x.asked(), 0);
        Check.due("whose", x.whose(0, 0), BAD);
        x.thing(5, 0, 9, 1111, 0);
        Check.due("no lodger has a trunk, so the thing is nobody's", x.share(0), NONE);
    }

    private static void afterChanges() {
        LostRoom x = Check.roomBy("l0-9s1t1h1 l20-29s1t1h1 k1111^0");
        Check.due("two ways", x.ways(0), 2);
        x.thing(5, 0, 9, 1111, 0);
        Check.due("one way by a thing", x.ways(0), 1);
        Check.due("whose", x.whose(0, 0), 1);
        x.thing(5, 0, 29, 1111, 0);
        x.lies(1, 0, false);
        Check.due("one way still", x.ways(0), 1);
        x.thing(1, 0, 29, 5, 0);
        Check.due("a thing of nobody's", x.ways(20), 0);
        x.book(0);
        Check.due("two ways again", x.ways(0), 2);
        LostRoom y = crossed();
        Check.due("one moved", y.share(0), 1);
        y.lies(1, NONE, false);
        Check.due("none moved", y.share(0), 0);
        y.lies(1, 1, false);
        y.lies(0, 1, false);
        Check.due("and now one", y.share(0), 1);
        Check.rowIs(y, "and now one", 0, 1, 0);
    }

    /** What is left of one BOOK does not reach the next one, nor of one call the next. */
    private static void afterBooks() {
        String down = "l0-40s1t1h1 l0-30s1t1h1 l0-20s1t1h1 k1111^0 k1111^0 u1/0";
        LostRoom x = Check.roomBy("l0-40s1t1h1 l0-40s1t1h1 l0-40s1t1h1 k1111^0 k1111^0 u1/0");
        Check.due("whose of alike", x.whose(0, 0), 7);
        Check.text(x, 0, down);
        x.book(0);
        Check.due("whose of the next book", x.whose(0, 0), 3);
        Check.due("ways of the next book", x.ways(0), 3);
        Check.text(x, 0, down.replace("u1/0", "u0/1"));
        x.book(0);
        Check.due("whose of a third book", x.whose(0, 0), 6);
        Check.due("ways of a third book", x.ways(0), 3);
        LostRoom y = Check.roomBy(down);
        Check.due("share first", y.share(0), 0);
        Check.row(y, 1, 2, 1);
        Check.finds(y, "what an earlier call chose is no matter", 0, y.moves(1, 2), 3);
        Check.row(y, 1, 0, 2);
        Check.due("nor here", y.moves(1, 2), 0);
        LostRoom z = Check.roomBy(down);
        Check.row(z, 1, 1, 2);
        Check.due("moves first", z.moves(1, 2), 0);
        LostRoom s = Check.roomBy(down);
        Check.due("sure first", s.sure(0), 0);
        LostRoom n = Check.roomBy(down);
        Check.due("next first", n.next(0), 0);
        Check.due("two of three", n.asked(), 2);
    }

    private static void sure() {
        LostRoom x = Check.roomBy("l0-9s1t1h1 l0-9s5t1h1 l0-9s9t1h1 k1111^0 k1111^0");
        x.thing(1, 0, 9, 5, 0);
        Check.due("sure of 1", x.sure(0), 2);
        Check.due("all in some", x.asked(), 7);
        x.lies(0, 1, false);
        x.thing(1, 0, 9, 1, 0);
        Check.due("sure of 0 and 1", x.sure(0), 3);
        Check.due("both in some", x.asked(), 3);
        x.thing(1, 0, 9, 9, 0);
        Check.due("none", x.sure(20), NONE);
        Check.due("NONE leaves asked", x.asked(), 3);
        LostRoom y = Check.roomBy("l0-9s1t1h1 l0-9s5t1h1 k1111^0");
        y.thing(1, 0, 9, 5, 0);
        y.lies(0, 0, false);
        y.thing(5, 0, 9, 1111, 0);
        Check.due("sure by 0", y.sure(0), 2);
        Check.due("sure by 20: he must own the cloth", y.sure(20), 2);
        LostRoom z = Check.roomBy("l0-9s1t1h1 l0-9s5t1h1 k1111^0");
        Check.due("sure of nobody", z.sure(0), 0);
        Check.due("either in some", z.asked(), 3);
    }

    private static void next() {
        LostRoom x = Check.roomBy("l0-9s1t1h1 l0-9s5t1h1 l0-9s9t1h1 k1111^0 k1111^0 k1111^0");
        Check.due("all alike: the first", x.next(0), 0);
        Check.due("each in two of six", x.asked(), 2);
        x.thing(1, 0, 9, 1, 0);
        x.lies(0, 0, false);
        Check.due("trunk 0 is sure", x.next(0), 1);
        Check.due("once of two", x.asked(), 1);
        Check.due("but not if it may be moved", x.next(1), 0);
        Check.due("then two of six", x.asked(), 2);
        x.lies(0, 2, false);
        Check.due("trunk 2 is sure", x.next(0), 0);
        LostRoom y = Check.roomBy("l0-9s1t1h1 l0-9s5t1h1 l0-8s5t1h1 k1111^0 k1111^0 u0/1");
        Check.due("by standing", y.ways(0), 4);
        Check.due("2 in 2 of 4 under, 0 and 1 in 2 of 4 above", y.next(0), 0);
        Check.due("twice", y.asked(), 2);
        LostRoom z = Check.roomBy("l0-9s1t1h1 l0-9s5t1h1 l0-8s5t1h1 k1111^0 k1111^0 k1111^0 u0/1 u0/2");
        Check.due("trunk 0 is sure by standing", z.next(0), 1);
        Check.due("once of two by standing", z.asked(), 1);
    }

    private static void moves() {
        LostRoom x = crossed();
        Check.row(x, 1, 0, 1);
        Check.due("moves", x.moves(1, 2), 2);
        Check.rowIs(x, "moves", 2, 0, 1, 2, 0);
        Check.rowIs(x, "the sharing stays", 1, 0, 1);
        Check.row(x, 1, 1, 0);
        Check.due("moves the other way", x.moves(1, 2), 1);
        Check.rowIs(x, "moves the other way", 2, 1, 1);
        x.lies(1, NONE, true);
        Check.due("nothing moves", x.moves(1, 2), 0);
        Check.rowIs(x, "nothing moves", 2);
        x.lies(1, 0, true);
        Check.due("onto itself", x.moves(1, 1), 1);
        Check.rowIs(x, "onto itself", 1, 1, 1);
        LostRoom y = Check.roomBy("l0-9s1t1h1 l0-9s1t1h1 l20-29s1t1h1 k1111^0 k1111^0 k1111^0");
        for (int i = 0; i < 20; i++) y.thing(5, 0, 9, 1111, 0);
        for (int i = 0; i < 20; i++) y.lies(i, 0, false);
        Check.row(y, 0, 2, 1, 0);
        Check.due("twenty moves", y.moves(0, 0), 20);
        Check.tells(y, "the last thing", y.at(0, 38), 19);
        Check.tells(y, "the first trunk that it may be of", y.at(0, 39), 1);
        Check.due("no more places", y.at(0, 40), LostRoom.FINDING);
    }

    private static void movesRefused() {
        LostRoom x = Check.roomBy("l0-9s1t1h1 l0-9s5t1h1 l0-8s1t1h1 k1111^0 k1111^0 u0/1");
        x.thing(1, 0, 9, 5, 0);
        Check.due("moves 6", x.moves(6, 0), BAD);
        Check.due("moves -1", x.moves(-1, 0), BAD);
        Check.due("moves to 6", x.moves(0, 6), BAD);
        Check.due("moves to -1", x.moves(0, -1), BAD);
        Check.finds(x, "moves of a missing row", 0, x.moves(0, 1), 1);
        Check.row(x, 0, 1);
        Check.finds(x, "moves of one", 0, x.moves(0, 1), 5);
        Check.row(x, 0, 0, 1, 2);
        Check.finds(x, "moves of three", 1, x.moves(0, 1), 5);
        int[][] none = {{0, 3}, {3, 1}, {-1, 1}, {1, -1}, {1, 1}, {0, 2}, {2, 0}, {Integer.MAX_VALUE, 1}, {1, 32}, {33, 1}};
        for (int i = 0; i < none.length; i++) {
            Check.row(x, 0, none[i]);
            Check.finds(x, "moves of " + none[i][0] + " " + none[i][1], i, x.moves(0, 1), 3);
        }
        Check.rowMissing(x, "refused moves", 1);
        Check.row(x, 0, 2, 1);
        Check.due("moves of a sharing", x.moves(0, 1), 0);
        LostRoom bare = new LostRoom();
        bare.row(0, 0);
        Check.due("moves of none", bare.moves(0, 1), 0);
        bare.thing(1, 0, 9, 5, 0);
        Check.finds(bare, "nobody's thing", 0, bare.moves(0, 1), 3);
    }

    private static void refused() {
        LostRoom x = crossed();
        Check.due("share 6", x.share(6), BAD);
        Check.due("share -1", x.share(-1), BAD);
        Check.due("ways 21", x.ways(21), BAD);
        Check.due("ways -1", x.ways(-1), BAD);
        Check.due("whose 2", x.whose(2, 0), BAD);
        Check.due("whose -1", x.whose(-1, 0), BAD);
        Check.due("whose m 21", x.whose(0, 21), BAD);
        Check.due("whose m -1", x.whose(0, -1), BAD);
        Check.due("sure 21", x.sure(21), BAD);
        Check.due("sure -1", x.sure(-1), BAD);
        Check.due("next 21", x.next(21), BAD);
        Check.due("next -1", x.next(-1), BAD);
        Check.due("sure 20", x.sure(20), 3);
        Check.due("next 20", x.next(20), 0);
        Check.due("no finding", x.finding(), 0);
    }
}
