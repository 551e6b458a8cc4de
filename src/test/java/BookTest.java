/** Promises 10 to 14: fault, book, wear, lodger, trunk. */
public final class BookTest {
    private static final int BAD = LostRoom.BAD, NONE = LostRoom.NONE, STATE = LostRoom.STATE;
    private static final String L = "l1-2s3t4h5", K = "k1234^5";

    public static void main(String[] args) {
        faultless();
        faultsOfLodgers();
        faultsOfTrunks();
        faultsOfStanding();
        faultRefused();
        book();
        bookTakesAway();
        bookRefused();
        wear();
        lodger();
        trunk();
        Check.end();
    }

    private static void fault(String signs, int want) {
        LostRoom x = new LostRoom();
        Check.text(x, 0, signs);
        Check.due("fault of '" + signs + "'", x.fault(0), want);
        // the same letters with more behind them go wrong at the same place, but where the end was the fault
        if (want >= 0 && want < signs.length() && signs.length() < 119) {
            Check.text(x, 0, signs + " x");
            Check.due("fault of '" + signs + " x'", x.fault(0), want);
        }
        // and blanks ahead move it on
        if (signs.length() < 118) {
            Check.text(x, 1, "  " + signs);
            Check.due("fault of '  " + signs + "'", x.fault(1), want < 0 ? want : want + 2);
        }
        Check.due("book of '" + signs + "'", x.book(0) == STATE ? 1 : 0, want == NONE ? 0 : 1);
    }

    private static void faultless() {
        fault("", NONE);
        fault("    ", NONE);
        fault(L, NONE);
        fault("l0-0s1t1h1", NONE);
        fault("l99-99s9t9h9", NONE);
        fault("l00-09s9t9h9", NONE);
        fault("l7-10s1t1h1", NONE);
        fault("l07-7s1t1h1", NONE);
        fault("k1111^0", NONE);
        fault("k5555^9", NONE);
        fault(L + K + K + "u1/0", NONE);
        fault(K + "   " + L + "  " + K + " u0/1  u0/1 u1/0 ", NONE);
        fault(L + L + L + L + L + L + L + L, NONE);
        fault(K + K + K + K + K + K + K + K + "u7/6", NONE);
        fault(K + K + "u0/1u0/1u0/1u0/1u0/1u0/1u1/0u1/0u1/0u1/0u1/0u1/0", NONE);
        LostRoom x = new LostRoom();
        x.text(0, 120);
        Check.due("fault of 120 blanks", x.fault(0), NONE);
    }

    private static void faultsOfLodgers() {
        for (int n = 1; n < L.length(); n++) fault(L.substring(0, n), n);
        for (int n = 1; n < L.length(); n++) fault(L.substring(0, n) + " " + L.substring(n), n);
        fault("l-2s3t4h5", 1);
        fault("la-2s3t4h5", 1);
        fault("l123-4s3t4h5", 3);
        fault("l1-234s3t4h5", 5);
        fault("l1-s3t4h5", 3);
        fault("l5-4s3t4h5", 4);
        fault("l53-4s3t4h5", 5);
        fault("l53-40s3t4h5", 6);
        fault("l53-52", 6);
        fault("l5-4", 4);
        fault("l1-2t3", 4);
        fault("l1-2s0t4h5", 5);
        fault("l1-2s12t4h5", 6);
        fault("l1-2s3t0h5", 7);
        fault("l1-2s3t45h5", 8);
        fault("l1-2s3t4h0", 9);
        fault("l1-2s3t4h:", 9);
        fault("l1-2s:t4h5", 5);
        fault("l1-2s3t:h5", 7);
        fault("l:-2s3t4h5", 1);
        fault("l1-:s3t4h5", 3);
        fault("l1:-2s3t4h5", 2);
        fault("l1/-2s3t4h5", 2);
        fault("l1-2s3t4h/", 9);
        fault("l1-2s3t4h55", 10);
        fault("l1+2s3t4h5", 2);
        fault("L1-2s3t4h5", 0);
        fault("x", 0);
        fault("1", 0);
        fault(L + "," + L, 10);
        fault(L + L + L + L + L + L + L + L + "l", 80);
        fault(L + L + L + L + L + L + L + L + " " + L, 81);
    }

    private static void faultsOfTrunks() {
        for (int n = 1; n < K.length(); n++) fault(K.substring(0, n), n);
        for (int n = 1; n < K.length(); n++) fault(K.substring(0, n) + " " + K.substring(n), n);
        fault("k0234^5", 1);
        fault("k6234^5", 1);
        fault("k1634^5", 2);
        fault("k1264^5", 3);
        fault("k1236^5", 4);
        fault("k12345", 5);
        fault("k1234^a", 6);
        fault("k1234^:", 6);
        fault("k1234^10", 7);
        fault(K + K + K + K + K + K + K + K + "k", 56);
        fault(K + K + K + K + K + K + K + K + "  " + K, 58);
    }

    private static void faultsOfStanding() {
        fault("u", 1);
        fault("u0/1", 1);
        fault(K + "u0/0", 10);
        fault(K + "u1/0", 8);
        fault(K + "u0/1", 10);
        fault(K + "u0/1" + K, 10);
        fault(K + "u-1/0", 8);
        fault(K + K + "u2/0", 15);
        fault(K + K + "u0/2", 17);
        fault(K + K + "u1/1", 17);
        fault(K + K + "u0-1", 16);
        fault(K + K + "u 0/1", 15);
        fault(K + K + "u0/", 17);
        fault(K + K + "u0", 16);
        fault(K + K + "u00/1", 16);
        fault(K + K + K + K + K + K + K + K + "u8/0", 57);
        fault(K + K + K + K + K + K + K + K + "u0/9", 59);
        String twelve = K + K + "u0/1u0/1u0/1u0/1u0/1u0/1u1/0u1/0u1/0u1/0u1/0u1/0";
        fault(twelve + "u", 62);
        fault(twelve + " u0/1", 63);
    }

    private static void faultRefused() {
        LostRoom x = new LostRoom();
        Check.due("fault 4", x.fault(4), BAD);
        Check.due("fault -1", x.fault(-1), BAD);
        Check.finds(x, "fault missing", 0, x.fault(3), 1);
        x.text(3, 3);
        x.put(3, 0, 'k');
        x.put(3, 1, 49 + 256);
        x.put(3, 2, -49);
        Check.due("fault of bytes cut", x.fault(3), 2);
        Check.due("fault changes nothing", x.count(1), 0);
        Check.due("fault tells nothing", x.asked(), 0);
    }

    private static void book() {
        LostRoom x = new LostRoom();
        Check.text(x, 2, "l1-22s3t4h5 k1234^5 k5432^0 l33-44s9t8h7 u1/0 k1111^9 u1/2");
        Check.due("book", x.book(2), 3);
        Check.due("lodgers", x.count(0), 2);
        Check.due("trunks", x.count(1), 3);
        Check.due("the text stays", x.put(2, 0, 'l'), 1108);
        Check.text(x, 2, "");
        Check.due("book of nothing", x.book(2), 0);
        Check.due("no lodgers", x.count(0), 0);
        Check.due("no trunks", x.count(1), 0);
    }

    private static void bookTakesAway() {
        LostRoom x = Check.roomBy(L + K);
        x.wear(3);
        x.thing(1, 1, 2, 3, 0);
        x.thing(2, 1, 2, 4, 6);
        x.lies(1, 0, true);
        x.line(1, 0, 9);
        x.bit(1, 1, 1, 1);
        Check.row(x, 0, 1, 3);
        x.claim(1, 0, 0);
        x.fits();
        x.trunk(0, 0);
        Check.due("one sharing", x.ways(20), 1);
        Check.due("one sheet", x.sheets(4), 1);
        Check.due("book again", x.book(0), 1);
        for (int what = 2; what <= 6; what++) Check.due("book takes away " + what, x.count(what), 0);
        Check.due("rows stay", x.count(7), 2);
        Check.due("texts stay", x.count(8), 1);
        Check.due("wear stays", x.wear(3), 3);
        Check.due("asked stays", x.asked(), 1234);
        Check.due("many stays", x.many(), 1);
        Check.tells(x, "trunk is empty", x.trunk(0, 3), 0);
        Check.due("no sheets", x.sheets(4), 0);
        Check.due("no thing", x.may(0), BAD);
        Check.due("no line", x.lineOf(0), BAD);
        Check.due("no claim", x.judge(0), BAD);
        Check.text(x, 0, L + L + K);
        x.book(0);
        Check.due("sharings of the new book", x.ways(0), 2);
    }

    private static void bookRefused() {
        LostRoom x = Check.roomBy(L + K);
        x.thing(1, 1, 2, 3, 0);
        Check.due("book 4", x.book(4), BAD);
        Check.due("book -1", x.book(-1), BAD);
        Check.finds(x, "book missing", 0, x.book(1), 1);
        Check.text(x, 1, K + K + "x");
        Check.due("book with a fault", x.book(1), STATE);
        Check.due("STATE is no finding", x.findings(1), 1);
        Check.due("things stay", x.count(2), 1);
        Check.due("trunks stay", x.count(1), 1);
        Check.due("lodgers stay", x.count(0), 1);
    }

    private static void wear() {
        LostRoom x = new LostRoom();
        Check.due("wear 0", x.wear(0), 1);
        Check.due("wear 4", x.wear(4), 0);
        Check.due("wear 5", x.wear(5), BAD);
        Check.due("wear -1", x.wear(-1), BAD);
        Check.due("wear 2", x.wear(2), 4);
        Check.due("wear tells nothing", x.asked(), 0);
    }

    private static void lodger() {
        LostRoom x = Check.roomBy("l1-22s3t4h5 l33-44s9t8h7");
        int[] want = {1, 22, 3, 4, 5, 33, 44, 9, 8, 7};
        for (int i = 0; i < 10; i++) Check.tells(x, "lodger " + i, x.lodger(i / 5, i % 5), want[i]);
        Check.due("lodger 2", x.lodger(2, 0), BAD);
        Check.due("lodger -1", x.lodger(-1, 0), BAD);
        Check.due("lodger what 5", x.lodger(0, 5), BAD);
        Check.due("lodger what -1", x.lodger(0, -1), BAD);
        Check.due("refused leaves asked", x.asked(), 7);
    }

    private static void trunk() {
        LostRoom x = Check.roomBy("l0-9s1t1h1 k1234^5 k5432^0 k1111^9 u1/0 u1/2 u0/2");
        x.thing(5, 0, 9, 1111, 0);
        x.thing(5, 0, 9, 1111, 0);
        x.thing(5, 0, 9, 1111, 0);
        x.lies(0, 2, false);
        x.lies(2, 2, true);
        int[] want = {1234, 5, 4, 0, 5432, 0, 5, 0, 1111, 9, 0, 2};
        for (int i = 0; i < 12; i++) Check.tells(x, "trunk " + i, x.trunk(i / 4, i % 4), want[i]);
        Check.due("trunk 3", x.trunk(3, 0), BAD);
        Check.due("trunk -1", x.trunk(-1, 0), BAD);
        Check.due("trunk what 4", x.trunk(0, 4), BAD);
        Check.due("trunk what -1", x.trunk(0, -1), BAD);
        Check.due("refused leaves asked", x.asked(), 2);
    }
}
