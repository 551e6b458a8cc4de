import com.sun.management.ThreadMXBean;
import java.lang.management.ManagementFactory;
import java.lang.reflect.Modifier;
import java.util.ArrayList;
import java.util.Arrays;
import java.util.List;
import java.util.function.ToLongFunction;

/** What a call makes stays small: a new object and 512 of its dearest calls are well within the room of a run. */
public final class RoomTakenTest {
    private static final int CALLS = 512, OBJECTS = 600_000, PLACES = 7_300_000;
    /** A place takes a byte at least and an object 16, so bytes tell of both. */
    private static final long MOST_BYTES = Math.min(PLACES, 16L * OBJECTS);
    /** The tables of the calls that make most have 264 ints; a table for sets of ten has 4,096 bytes at least. */
    private static final long MOST_BYTES_A_CALL = 2000;

    private static final ThreadMXBean MACHINE = (ThreadMXBean) ManagementFactory.getThreadMXBean();

    private static final String[] BOOKS = {
        "",
        "k1111^9k1111^9k1111^9k1111^9k1111^9k1111^9k1111^9k1111^9u0/1u2/3u4/5u6/7u0/2u2/4u4/6u1/3u3/5u5/7u0/3u0/4",
        "l0-9s1t1h1l0-9s2t2h2l0-9s1t2h1l0-9s2t1h2l0-9s1t1h2l0-9s2t2h1l0-9s2t1h1k1111^9k1111^9k1111^9k1111^9k1111^9k1111^9k1111^9",
    };

    private record Call(String name, ToLongFunction<LostRoom> made) {
    }

    public static void main(String[] args) {
        if (!MACHINE.isThreadAllocatedMemorySupported()) {
            System.out.println("this machine does not count what is made: nothing looked at");
            return;
        }
        MACHINE.setThreadAllocatedMemoryEnabled(true);
        Check.due("calls of the face that are looked at", calls().stream().map(Call::name).distinct().count(), callsOfTheFace());
        // what the machine itself makes at the first time of a call is none of the room's
        dearest(false);
        long call = dearest(true);
        long before = MACHINE.getCurrentThreadAllocatedBytes();
        LostRoom x = new LostRoom();
        long first = MACHINE.getCurrentThreadAllocatedBytes() - before;
        Check.due("WEAR of the one made", x.wear(1), 1);
        Check.due("a new object and " + CALLS + " calls are within the room", first + CALLS * call < MOST_BYTES ? 1 : 0, 1);
        Check.end();
    }

    private static long callsOfTheFace() {
        return Arrays.stream(LostRoom.class.getDeclaredMethods()).filter(m -> Modifier.isPublic(m.getModifiers())).count();
    }

    /** The most bytes that one call makes, each the first that is asked of a full room. */
    private static long dearest(boolean looked) {
        long most = 0;
        for (Call one : calls()) {
            for (String book : BOOKS) {
                LostRoom x = full(book);
                long before = MACHINE.getCurrentThreadAllocatedBytes();
                one.made.applyAsLong(x);
                long bytes = MACHINE.getCurrentThreadAllocatedBytes() - before;
                String name = one.name + " makes " + bytes + " bytes, within " + MOST_BYTES_A_CALL;
                if (looked) Check.due(name, bytes <= MOST_BYTES_A_CALL ? 1 : 0, 1);
                most = Math.max(most, bytes);
            }
        }
        return most;
    }

    private static LostRoom full(String book) {
        LostRoom x = Check.roomBy(book);
        x.text(1, 120);
        for (int i = 0; i < 10; i++) x.thing(4, 0, 9, i % 2 + 1, 2 - i % 2);
        for (int i = 10; i < 18; i++) x.thing(5, 0, 9, 1111, 0);
        int trunks = x.count(1);
        for (int i = 0; i < 18; i++) x.lies(i, i < trunks ? i : LostRoom.NONE, i < 8);
        for (int i = 0; i < 7; i++) x.line(1, 0, 9);
        for (int i = 0; i < 9; i++) x.bit(1, 1, 500, 500);
        x.row(0, 48);
        for (int i = 0; i < 48; i += 2) x.lay(0, i, 5);
        for (int i = 0; i < 7; i++) x.claim(i, 0, 0);
        x.row(1, trunks);
        for (int i = 0; i < trunks; i++) x.lay(1, i, i);
        return x;
    }

    private static List<Call> calls() {
        List<Call> all = new ArrayList<>();
        callsOfPapers(all);
        callsOfThings(all);
        all.add(new Call("bit", x -> x.bit(1, 1, 500, 500)));
        all.add(new Call("joins", x -> x.joins(0, 1)));
        all.add(new Call("sheets", x -> x.sheets(2)));
        all.add(new Call("laid", LostRoom::laid));
        all.add(new Call("travellers", LostRoom::travellers));
        all.add(new Call("journey", x -> x.journey(1023)));
        all.add(new Call("claim", x -> x.claim(1, 0, 0)));
        all.add(new Call("judge", x -> x.judge(0)));
        all.add(new Call("heir", x -> x.heir(0, 1)));
        all.add(new Call("asked", LostRoom::asked));
        all.add(new Call("many", LostRoom::many));
        all.add(new Call("count", x -> x.count(3)));
        all.add(new Call("finding", LostRoom::finding));
        all.add(new Call("findings", x -> x.findings(1)));
        all.add(new Call("digest", LostRoom::digest));
        return all;
    }

    private static void callsOfPapers(List<Call> all) {
        all.add(new Call("row", x -> x.row(2, 48)));
        all.add(new Call("lay", x -> x.lay(0, 0, 5)));
        all.add(new Call("at", x -> x.at(0, 0)));
        all.add(new Call("tear", x -> x.tear(0)));
        all.add(new Call("copy", x -> x.copy(0, 0, 0, 1, 47)));
        all.add(new Call("mean", x -> x.mean(0)));
        all.add(new Call("text", x -> x.text(2, 120)));
        all.add(new Call("put", x -> x.put(0, 0, 108)));
        all.add(new Call("fault", x -> x.fault(0)));
        all.add(new Call("book", x -> x.book(0)));
        all.add(new Call("wear", x -> x.wear(4)));
        all.add(new Call("lodger", x -> x.lodger(0, 0)));
        all.add(new Call("trunk", x -> x.trunk(0, 3)));
        all.add(new Call("line", x -> x.line(1, 0, 9)));
        all.add(new Call("readings", LostRoom::readings));
        all.add(new Call("lineOf", x -> x.lineOf(0)));
    }

    private static void callsOfThings(List<Call> all) {
        all.add(new Call("thing", x -> x.thing(5, 0, 9, 1111, 0)));
        all.add(new Call("lies", x -> x.lies(0, 0, true)));
        all.add(new Call("told", x -> x.told(0, 0)));
        all.add(new Call("mark", x -> x.mark(0, 4)));
        all.add(new Call("may", x -> x.may(0)));
        all.add(new Call("fewest", LostRoom::fewest));
        all.add(new Call("fits", LostRoom::fits));
        all.add(new Call("opens", x -> x.opens(10)));
        all.add(new Call("strange", LostRoom::strange));
        all.add(new Call("water", LostRoom::water));
        all.add(new Call("piling", x -> x.piling(2)));
        all.add(new Call("share", x -> x.share(2)));
        all.add(new Call("ways", x -> x.ways(20)));
        all.add(new Call("whose", x -> x.whose(0, 20)));
        all.add(new Call("sure", x -> x.sure(20)));
        all.add(new Call("next", x -> x.next(20)));
        all.add(new Call("moves", x -> x.moves(1, 2)));
    }
}
