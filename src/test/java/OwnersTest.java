/** Promises 19 to 25: may, fewest, fits, opens, strange, water, piling. */
public final class OwnersTest {
    private static final int BAD = LostRoom.BAD, NONE = LostRoom.NONE;

    public static void main(String[] args) {
        mayByYears();
        mayByMarks();
        fewest();
        fewestFirst();
        fewestIsFewer();
        fits();
        opens();
        strange();
        water();
        waterBeyond();
        piling();
        Check.end();
    }

    private static void may(LostRoom x, int kind, int a, int b, int p, int q, int want) {
        int i = x.thing(kind, a, b, p, q);
        Check.due("may own " + kind + " of " + a + "-" + b + " " + p + " " + q, x.may(i), want);
    }

    private static void mayByYears() {
        LostRoom x = Check.roomBy("l10-20s3t4h5 l20-30s3t4h5 l31-40s3t4h5");
        may(x, 5, 0, 9, 1111, 0, 0);
        may(x, 5, 0, 10, 1111, 0, 1);
        may(x, 5, 20, 20, 1111, 0, 3);
        may(x, 5, 21, 30, 1111, 0, 2);
        may(x, 5, 30, 31, 1111, 0, 6);
        may(x, 5, 40, 99, 1111, 0, 4);
        may(x, 5, 41, 99, 1111, 0, 0);
        may(x, 5, 0, 99, 1111, 0, 7);
        Check.due("may 8", x.may(8), BAD);
        Check.due("may -1", x.may(-1), BAD);
        Check.due("may tells nothing", x.asked(), 0);
    }

    private static void mayByMarks() {
        LostRoom x = Check.roomBy("l0-9s3t4h5 l0-9s5t6h4 l0-9s6t4h6 l50-60s4t4h7");
        may(x, 1, 0, 9, 2, 0, 1);
        may(x, 1, 0, 9, 4, 0, 3);
        may(x, 1, 0, 9, 5, 0, 6);
        may(x, 1, 0, 9, 8, 0, 0);
        may(x, 1, 0, 50, 4, 0, 11);
        may(x, 2, 0, 9, 4, 1, 5);
        may(x, 2, 0, 9, 4, 5, 4);
        may(x, 2, 0, 9, 0, 1, 7);
        may(x, 2, 0, 9, 0, 4, 5);
        may(x, 2, 0, 9, 9, 1, 0);
        may(x, 3, 0, 9, 41, 0, 1);
        may(x, 3, 0, 9, 41, 2, 4);
        may(x, 3, 0, 9, 41, 1, 0);
        may(x, 3, 0, 9, 1, 1, 2);
        may(x, 3, 0, 9, 4, 1, 0);
        may(x, 3, 0, 9, 41, 3, 0);
        may(x, 4, 0, 9, 4, 9, 5);
        may(x, 4, 0, 9, 9, 6, 2);
        may(x, 4, 0, 9, 6, 4, 7);
        may(x, 4, 0, 9, 1, 9, 0);
    }

    private static void fewest() {
        LostRoom x = Check.roomBy("l0-9s1t1h1 l10-19s1t1h1 l20-29s1t1h1");
        Check.due("fewest of no things", x.fewest(), 0);
        Check.due("none told", x.asked(), 0);
        x.thing(5, 12, 22, 1111, 0);
        Check.due("fewest is one", x.fewest(), 1);
        Check.due("the first one", x.asked(), 2);
        x.thing(5, 5, 5, 1111, 0);
        Check.due("fewest is two", x.fewest(), 2);
        Check.due("the first two", x.asked(), 3);
        x.thing(5, 25, 25, 1111, 0);
        Check.due("fewest is two others", x.fewest(), 2);
        Check.due("those two", x.asked(), 5);
        x.thing(5, 40, 50, 1111, 0);
        Check.finds(x, "nobody for one", 0, x.fewest(), 4);
        Check.due("refused leaves asked", x.asked(), 5);
    }

    /** Two and two could have owned all: {1, 2} is 6, {0, 3} is 9. */
    private static void fewestFirst() {
        LostRoom x = Check.roomBy("l0-9s1t1h1 l10-19s1t1h1 l20-29s1t1h1 l30-39s1t1h1");
        x.thing(5, 5, 15, 1111, 0);
        x.thing(5, 25, 35, 1111, 0);
        Check.due("fewest is two", x.fewest(), 2);
        Check.due("first by bits", x.asked(), 5);
        LostRoom y = Check.roomBy("l0-9s1t1h1 l10-19s3t1h1 l0-9s5t1h1 l10-19s7t1h1");
        y.thing(5, 0, 19, 1111, 0);
        y.thing(5, 10, 19, 1111, 0);
        y.thing(1, 0, 19, 4, 0);
        Check.due("one of two", y.fewest(), 1);
        Check.due("that one", y.asked(), 2);
        LostRoom z = Check.roomBy("l0-1s1t1h1 l2-3s1t2h1 l4-5s1t1h1 l6-7s1t2h1");
        z.thing(4, 0, 3, 1, 2);
        z.thing(4, 4, 7, 1, 2);
        z.thing(4, 0, 7, 1, 3);
        z.thing(4, 0, 7, 2, 3);
        Check.due("two of unlike towns", z.fewest(), 2);
        Check.due("6 is ahead of 9", z.asked(), 6);
    }

    /** Two by lower bits could have owned all, but one alone could, too. */
    private static void fewestIsFewer() {
        LostRoom x = Check.roomBy("l0-9s1t1h1 l10-19s1t1h1 l5-15s1t1h1");
        x.thing(5, 5, 9, 1111, 0);
        x.thing(5, 10, 15, 1111, 0);
        Check.due("one alone", x.fewest(), 1);
        Check.due("the third", x.asked(), 4);
        x.thing(5, 19, 19, 1111, 0);
        Check.due("with another", x.fewest(), 2);
        Check.due("0 and 1", x.asked(), 3);
    }

    private static void fits() {
        LostRoom x = Check.roomBy("l0-99s1t1h1 l0-99s1t1h1 l0-99s1t1h1 l0-99s1t1h1 l0-99s1t1h1 l0-99s1t1h1 l0-99s1t1h1 l0-9s1t1h1");
        Check.due("no things fit", x.fits(), 1);
        Check.due("in one way", x.many(), 1);
        x.thing(5, 50, 60, 1111, 0);
        x.thing(5, 5, 60, 1111, 0);
        Check.due("two fit", x.fits(), 1);
        Check.due("in 56 ways", x.many(), 56);
        for (int i = 2; i < 20; i++) x.thing(5, 5, 5, 1111, 0);
        Check.due("twenty fit", x.fits(), 1);
        Check.due("in 7 * 8^19 ways", x.many(), 7L << 57);
        Check.due("fits tells by many alone", x.asked(), 0);
        LostRoom y = Check.roomBy("l0-9s1t1h1");
        y.thing(5, 5, 5, 1111, 0);
        y.thing(5, 15, 15, 1111, 0);
        y.fits();
        Check.due("one does not fit", y.fits(), 0);
        Check.due("in no way", y.many(), 0);
        Check.due("and this is no finding", y.finding(), 0);
    }

    private static void opens() {
        LostRoom x = Check.roomBy("l0-9s1t1h1 k2222^0 k2223^0 k3322^0 k3333^0 k2242^0 k1111^0");
        int key = x.thing(5, 0, 9, 2222, 0);
        int cloth = x.thing(1, 0, 9, 2, 0);
        int[] byWear = {1, 3, 7, 7, 47};
        for (int w = 0; w <= 4; w++) {
            x.wear(w);
            Check.due("opens by wear " + w, x.opens(key), byWear[w]);
        }
        Check.finds(x, "a cloth opens nothing", 0, x.opens(cloth), 3);
        Check.due("opens 2", x.opens(2), BAD);
        Check.due("opens -1", x.opens(-1), BAD);
        Check.due("opens tells nothing", x.asked(), 0);
    }

    private static void strange() {
        LostRoom x = Check.roomBy("l0-9s1t1h1 k2222^0 k4444^0");
        Check.due("nothing strange", x.strange(), 0);
        Check.due("none first", x.asked(), NONE);
        for (int key : new int[] {2222, 4444, 2222, 4445, 5111, 2223}) x.thing(5, 0, 9, key, 0);
        x.thing(1, 0, 9, 2, 0);
        Check.due("keys on the floor", x.strange(), 0);
        x.lies(0, 0, false);
        x.lies(1, 1, false);
        x.lies(4, 1, false);
        x.lies(6, 1, false);
        Check.due("keys at home, keys that open nothing, cloth", x.strange(), 0);
        Check.due("still none first", x.asked(), NONE);
        x.lies(2, 1, false);
        x.lies(3, 0, true);
        x.lies(5, 1, true);
        Check.due("three strange", x.strange(), 3);
        Check.due("the first", x.asked(), 2);
        x.wear(0);
        Check.due("one opens but by wear", x.strange(), 1);
        x.lies(0, 1, false);
        Check.due("two strange", x.strange(), 2);
        Check.due("a first thing", x.asked(), 0);
    }

    private static void water() {
        LostRoom x = Check.roomBy("l0-9s1t1h1 k2222^0 k4444^3 k1111^9 k1112^5");
        Check.due("no thing", x.water(), 0);
        Check.due("any line", x.asked(), 10);
        for (int i = 0; i < 4; i++) x.thing(1, 0, 9, 2, 0);
        x.lies(0, NONE, true);
        Check.due("a wet one on the floor", x.water(), 0);
        x.lies(0, 1, true);
        Check.due("wet below 4", x.water(), 4);
        Check.due("up to 10", x.asked(), 10);
        x.lies(1, 3, false);
        Check.due("wet below 4, dry from 5", x.water(), 4);
        Check.due("up to 5", x.asked(), 5);
        x.lies(2, 2, false);
        x.lies(3, 0, true);
        Check.due("others do not matter", x.water(), 4);
        Check.due("up to 5 still", x.asked(), 5);
        x.lies(1, 1, false);
        Check.due("wet and dry in one", x.water(), NONE);
        Check.due("NONE leaves asked", x.asked(), 5);
    }

    private static void waterBeyond() {
        LostRoom x = Check.roomBy("l0-9s1t1h1 k2222^9 k4444^0");
        x.thing(1, 0, 9, 2, 0);
        x.thing(1, 0, 9, 2, 0);
        x.lies(0, 0, true);
        Check.due("wet at 9", x.water(), 10);
        Check.due("only 10", x.asked(), 10);
        x.lies(0, 1, false);
        Check.due("dry at 0", x.water(), 0);
        Check.due("only 0", x.asked(), 0);
        x.lies(1, 0, true);
        Check.due("wet above dry", x.water(), NONE);
    }

    private static void piling() {
        LostRoom x = new LostRoom();
        Check.due("piling of none", x.piling(5), 1);
        Check.rowIs(x, "piling of none", 5);
        Check.due("piling 6", x.piling(6), BAD);
        Check.due("piling -1", x.piling(-1), BAD);
        x = Check.roomBy("k1111^1 k1111^1 k1111^1 k1111^1 u3/0 u2/1 u3/2");
        Check.due("piling", x.piling(0), 3);
        Check.rowIs(x, "piling", 0, 3, 0, 2, 1);
        x = Check.roomBy("k1111^1k1111^1k1111^1k1111^1k1111^1k1111^1k1111^1k1111^1");
        Check.due("piling of eight", x.piling(0), 40320);
        Check.rowIs(x, "piling of eight", 0, 0, 1, 2, 3, 4, 5, 6, 7);
        x = Check.roomBy("k1111^1k1111^1k1111^1 u0/1 u1/2 u2/0");
        Check.row(x, 0, 8);
        Check.due("piling round", x.piling(0), NONE);
        Check.rowIs(x, "the row stays", 0, 8);
        Check.due("piling round to a missing row", x.piling(1), NONE);
        Check.rowMissing(x, "piling round", 1);
        x = Check.roomBy("k1111^1k1111^1k1111^1 u1/0 u1/0 u2/0");
        Check.due("the same standing told twice", x.piling(0), 2);
        Check.rowIs(x, "the same standing told twice", 0, 1, 2, 0);
    }
}
