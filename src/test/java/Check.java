/** What the tests share: counting wrong answers, and writing texts and rows into a room. */
final class Check {
    private static int wrong;
    private static int all;

    private Check() {
    }

    static void due(String call, long got, long want) {
        all++;
        if (got == want) return;
        wrong++;
        System.out.println(call + " answered " + got + ", due is " + want);
    }

    /** A call that tells by asked(): it answers 1 and tells what is due. */
    static void tells(LostRoom x, String call, int answer, int want) {
        due(call, answer, 1);
        due(call + " told", x.asked(), want);
    }

    /** A refusal with a finding: what finding() and findings() tell of it. */
    static void finds(LostRoom x, String call, int before, int answer, int finding) {
        due(call, answer, LostRoom.FINDING);
        due(call + " finding", x.finding(), finding);
        due(call + " findings", x.findings(finding), before + 1);
    }

    static void text(LostRoom x, int t, String signs) {
        due("text", x.text(t, signs.length()), signs.length());
        for (int i = 0; i < signs.length(); i++) x.put(t, i, signs.charAt(i));
    }

    static LostRoom roomBy(String signs) {
        LostRoom x = new LostRoom();
        text(x, 0, signs);
        due("fault of " + signs, x.fault(0), LostRoom.NONE);
        x.book(0);
        return x;
    }

    static void row(LostRoom x, int r, int... values) {
        x.row(r, values.length);
        for (int i = 0; i < values.length; i++) x.lay(r, i, values[i]);
    }

    static void rowIs(LostRoom x, String call, int r, int... values) {
        for (int i = 0; i < values.length; i++) tells(x, call + " place " + i, x.at(r, i), values[i]);
        due(call + " size", x.at(r, values.length), LostRoom.FINDING);
        due(call + " size finding", x.finding(), 2);
    }

    static void rowMissing(LostRoom x, String call, int r) {
        due(call + " row missing", x.at(r, 0), LostRoom.FINDING);
        due(call + " row missing finding", x.finding(), 1);
    }

    static void end() {
        System.out.println(all + " answers looked at, " + wrong + " wrong");
        if (wrong != 0) System.exit(1);
    }
}
