/** Promises 44 to 49: asked, many, count, finding, findings, digest. */
public final class ToldTest {
    private static final int BAD = LostRoom.BAD;

    public static void main(String[] args) {
        asked();
        many();
        count();
        findings();
        digestOfNothing();
        digest();
        digestTellsApart();
        Check.end();
    }

    private static LostRoom room() {
        LostRoom x = Check.roomBy("l1-22s3t4h5 k1234^6 k5555^7 u0/1");
        x.thing(1, 2, 8, 3, 0);
        x.thing(3, 3, 9, 46, 0);
        x.thing(2, 4, 7, 0, 1);
        x.lies(0, 1, true);
        return x;
    }

    private static void asked() {
        LostRoom x = room();
        Check.due("nothing asked", x.asked(), 0);
        x.lodger(0, 1);
        Check.due("lodger", x.asked(), 22);
        x.trunk(1, 1);
        Check.due("trunk", x.asked(), 7);
        x.told(0, 2);
        Check.due("told", x.asked(), 8);
        x.fewest();
        Check.due("fewest", x.asked(), 1);
        x.strange();
        Check.due("strange", x.asked(), LostRoom.NONE);
        x.water();
        Check.due("water", x.asked(), 10);
        Check.row(x, 0, 4, 6);
        Check.due("lay", x.asked(), 0);
        x.mean(0);
        Check.due("mean", x.asked(), 5);
        x.at(0, 0);
        Check.due("at", x.asked(), 4);
        x.at(0, 2);
        x.lodger(1, 0);
        Check.due("refused", x.asked(), 4);
        quiet(x, 4);
    }

    /** Calls that tell nothing by asked(). */
    private static void quiet(LostRoom x, int stays) {
        x.row(1, 2);
        x.copy(0, 0, 1, 0, 1);
        x.tear(1);
        x.text(3, 2);
        x.put(3, 0, 32);
        x.fault(3);
        x.wear(1);
        x.thing(5, 0, 9, 1111, 0);
        x.lies(3, 0, false);
        x.mark(3, 5);
        x.may(3);
        x.fits();
        x.opens(3);
        x.piling(2);
        x.share(2);
        x.ways(3);
        x.whose(0, 3);
        x.line(1, 0, 9);
        x.readings();
        x.lineOf(0);
        x.bit(1, 1, 1, 1);
        x.sheets(2);
        x.laid();
        x.travellers();
        x.journey(1);
        x.claim(0, 0, 0);
        x.many();
        x.count(3);
        x.finding();
        x.findings(1);
        x.digest();
        Check.due("quiet calls", x.asked(), stays);
    }

    private static void many() {
        LostRoom x = room();
        Check.due("before", x.many(), 0);
        x.ways(3);
        Check.due("only by fits", x.many(), 0);
        x.fits();
        Check.due("one way", x.many(), 1);
        x.thing(5, 50, 60, 1111, 0);
        Check.due("still of the latest fits", x.many(), 1);
        x.fits();
        Check.due("no way", x.many(), 0);
    }

    private static void count() {
        LostRoom x = room();
        x.line(1, 0, 9);
        x.line(1, 0, 9);
        for (int i = 0; i < 4; i++) x.bit(1, 1, 1, 1);
        Check.row(x, 3, 1, 1);
        Check.row(x, 5);
        for (int i = 0; i < 5; i++) x.claim(1, 0, 3);
        x.text(2, 0);
        int[] want = {1, 2, 3, 2, 2, 4, 5, 2, 2};
        for (int what = 0; what < want.length; what++) Check.due("count " + what, x.count(what), want[what]);
        LostRoom y = Check.roomBy("k1111^0");
        y.thing(2, 0, 9, 1, 1);
        Check.due("one letter", y.count(3), 1);
        y.thing(4, 0, 9, 1, 2);
        Check.due("a ticket is no letter", y.count(3), 1);
        Check.due("count 9", x.count(9), BAD);
        Check.due("count -1", x.count(-1), BAD);
        x.tear(3);
        Check.due("count rows", x.count(7), 1);
    }

    private static void findings() {
        LostRoom x = room();
        Check.due("none yet", x.finding(), 0);
        Check.due("findings 0", x.findings(0), BAD);
        Check.due("findings 6", x.findings(6), BAD);
        Check.due("findings -1", x.findings(-1), BAD);
        x.row(0, -1);
        x.at(0, 0);
        x.row(0, 0);
        x.at(0, 0);
        x.mean(0);
        x.mark(0, 2);
        x.opens(0);
        int[] want = {1, 1, 2, 1, 1};
        for (int f = 1; f <= 5; f++) Check.due("findings " + f, x.findings(f), want[f - 1]);
        Check.due("the latest", x.finding(), 3);
        x.row(9, 0);
        x.row(0, 1);
        Check.due("the latest stays", x.finding(), 3);
        Check.due("BAD is counted nowhere", x.findings(1) + x.findings(2) + x.findings(4) + x.findings(5), 4);
    }

    private static long mixed(long h, long... values) {
        for (long v : values) h = 31 * h + v;
        return h;
    }

    private static void digestOfNothing() {
        long h = mixed(17, 0, 0, 0, 0, 0, 0, 0, 0, 0, 1, -1, -1, -1, -1, -1, -1, -1, -1, -1, -1);
        Check.due("digest of a new object", new LostRoom().digest(), h);
    }

    private static void digest() {
        LostRoom x = room();
        x.wear(3);
        x.thing(4, 5, 6, 7, 8);
        x.thing(5, 10, 20, 5432, 0);
        x.line(4, 10, 30);
        x.bit(2, 3, 400, 500);
        Check.row(x, 1, 1, 3, 4, -5);
        x.claim(6, 1, 1);
        Check.row(x, 3);
        x.text(0, 2);
        x.put(0, 1, -100);
        x.at(1, 2);
        long h = mixed(17, 1, 2, 5, 2, 1, 1, 1, 2, 1, 3);
        h = mixed(h, 1, 22, 3, 4, 5);
        h = mixed(h, 1234, 6, 2, 0, 5555, 7, 0, 1);
        h = mixed(h, 1, 2, 8, 1, 1, 3);
        h = mixed(h, 3, 3, 9, -9, 0, 0);
        h = mixed(h, 2, 4, 7, -9, 0, 1);
        h = mixed(h, 4, 5, 6, -9, 0, 78);
        h = mixed(h, 5, 10, 20, -9, 0, 5432);
        h = mixed(h, 4, 10, 30);
        h = mixed(h, 2, 3, 400, 500);
        h = mixed(h, 6, 1, 2, 1, 3, 4, -5);
        h = mixed(h, -1, 4, 1, 3, 4, -5, -1, 0, -1, -1);
        h = mixed(h, 2, 32, -100, -1, -1, -1);
        Check.due("digest", x.digest(), h);
        Check.due("digest again", x.digest(), h);
        Check.due("asked stays", x.asked(), 4);
    }

    private static void digestTellsApart() {
        LostRoom x = room();
        long before = x.digest();
        x.share(9);
        x.fits();
        x.lodger(0, 0);
        x.at(4, 0);
        Check.due("what is only told is not in it", x.digest(), before);
        x.lies(0, 1, false);
        Check.due("wetness is", x.digest() == before ? 1 : 0, 0);
        x.lies(0, 1, true);
        Check.due("and back", x.digest(), before);
    }
}
