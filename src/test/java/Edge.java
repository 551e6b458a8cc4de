import java.io.IOException;
import java.lang.reflect.Method;
import java.lang.reflect.Modifier;
import java.nio.file.Files;
import java.nio.file.Path;
import java.util.Arrays;
import java.util.HashMap;
import java.util.List;
import java.util.Map;
import java.util.Set;

/**
 * A sentence of the document that names an edge, and a run of calls on a new room that holds only if the sentence does.
 *
 * <p>A step is a call with what is due: "row 0 49 = BAD", "count 7 = 2". A finding is due by its name ("at 0 0 = NOTHING").
 * What asked() tells behind it: "fewest = 2 tells 3"; "at 0 1 tells 5" is short for "at 0 1 = 1 tells 5". Behind each step
 * is looked whether all else stayed as it was: what the room holds, asked(), many(), finding(), findings().
 *
 * <p>Steps that bring a room about: "house 'l1-2s3t4h5'" (a BOOK by TEXT 3), "write 0 'k'" (a TEXT), "ints 0 : 1 2" (a ROW),
 * "20 x line 0 0 9" (a call so many times). "ints 0 is 1 2" and "ints 0 is missing" look at a whole ROW.
 */
final class Edge {
    private static final int CALLS = 512;
    private static final Set<String> CHANGES = Set.of("row", "lay", "tear", "copy", "text", "put", "book", "wear", "thing",
        "lies", "piling", "share", "moves", "line", "bit", "sheets", "claim");
    private static final List<String> FINDINGS = List.of("", "NOTHING", "BEYOND", "UNLIKE", "NOUGHT", "SIZE");
    private static final Map<String, Long> NAMES = Map.of("BAD", -1L, "FULL", -2L, "STATE", -4L, "SPENT", -6L, "NONE", -9L,
        "MOST", (long) Integer.MAX_VALUE, "LEAST", (long) Integer.MIN_VALUE);
    private static final Set<String> REFUSALS = Set.of("BAD", "FULL", "STATE", "SPENT", "NONE");
    private static final Map<String, Method> METHODS = new HashMap<>();
    private static final String DOCUMENT = document();

    private final LostRoom x = new LostRoom();
    private final String sentence;
    private int calls;
    /** What state() told behind the latest watched step, if no other step came since. */
    private long[] latest;

    static {
        for (Method m : LostRoom.class.getDeclaredMethods()) if (Modifier.isPublic(m.getModifiers())) METHODS.put(m.getName(), m);
    }

    private Edge(String sentence) {
        this.sentence = sentence;
    }

    static void of(String sentence, List<String> steps) {
        of(sentence, steps.toArray(new String[0]));
    }

    static void of(String sentence, String... steps) {
        Edge edge = new Edge(said(sentence));
        for (String step : steps) edge.step(step);
        Check.due(sentence + ": calls of one room beyond " + CALLS, Math.max(0, edge.calls - CALLS), 0);
    }

    /** A sentence as a test tells of it; the document, where it is at hand, must have it so. */
    static String said(String sentence) {
        if (DOCUMENT != null) Check.due("the document says: " + sentence, DOCUMENT.contains(sentence) ? 1 : 0, 1);
        return "\"" + sentence + "\"";
    }

    /** The document with single blanks, or null where it is not at hand. */
    private static String document() {
        Path path = Path.of("../shared/DOC.md");
        try {
            return Files.exists(path) ? Files.readString(path).replaceAll("\\s+", " ") : null;
        } catch (IOException e) {
            return null;
        }
    }

    private void step(String step) {
        String[] words = step.split(" +");
        long[] before = latest == null ? null : latest.clone();
        latest = null;
        if (words[0].equals("house")) house(quoted(step));
        else if (words[0].equals("write")) write(Integer.parseInt(words[1]), quoted(step));
        else if (words[0].equals("ints") && words[2].equals(":")) lay(words);
        else if (words[0].equals("ints")) look(step, words);
        else if (words.length > 1 && words[1].equals("x")) repeat(step, words);
        else watched(step, words, before == null ? state() : before);
    }

    private static String quoted(String step) {
        return step.substring(step.indexOf('\'') + 1, step.lastIndexOf('\''));
    }

    private void house(String signs) {
        write(3, signs);
        due("book of " + signs + " stands", x.book(3) >= 0 ? 1 : 0, 1);
        calls++;
    }

    private void write(int t, String signs) {
        x.text(t, signs.length());
        for (int i = 0; i < signs.length(); i++) x.put(t, i, signs.charAt(i));
        calls += 1 + signs.length();
    }

    private void lay(String[] words) {
        int r = Integer.parseInt(words[1]);
        x.row(r, words.length - 3);
        for (int i = 3; i < words.length; i++) x.lay(r, i - 3, (int) number(words[i]));
        calls += words.length - 2;
    }

    private void look(String step, String[] words) {
        int r = Integer.parseInt(words[1]);
        boolean missing = words[2].equals("is") && words.length == 4 && words[3].equals("missing");
        for (int i = 3; i < words.length && !missing; i++) {
            due(step + ": place " + (i - 3) + " is there", x.at(r, i - 3), 1);
            due(step + ": place " + (i - 3), x.asked(), number(words[i]));
        }
        due(step + ": its end", x.at(r, missing ? 0 : words.length - 3), -3);
        due(step + ": what is there", x.finding(), missing ? 1 : 2);
        calls += 2 * words.length - 4;
    }

    private void repeat(String step, String[] words) {
        for (int n = Integer.parseInt(words[0]); n > 0; n--) {
            due(step + " stands", ask(words, 2) >= 0 ? 1 : 0, 1);
        }
    }

    private void watched(String step, String[] words, long[] before) {
        int equals = Arrays.asList(words).indexOf("=");
        int tells = Arrays.asList(words).indexOf("tells");
        String want = equals >= 0 ? words[equals + 1] : tells >= 0 ? "1" : "";
        int finding = Math.max(0, FINDINGS.indexOf(want));
        long answer = ask(words, 0);
        long[] after = state();
        latest = after;
        if (!want.isEmpty()) due(step, answer, finding > 0 ? -3 : number(want));
        if (!REFUSALS.contains(want) && finding == 0 && CHANGES.contains(words[0])) before[0] = after[0];
        if (tells >= 0) before[1] = number(words[tells + 1]);
        if (words[0].equals("fits")) before[2] = after[2];
        if (finding > 0) {
            before[3] = finding;
            before[3 + finding]++;
        }
        due(step + ", then what the room holds", after[0], before[0]);
        due(step + ", then asked()", after[1], before[1]);
        due(step + ", then many()", after[2], before[2]);
        due(step + ", then finding()", after[3], before[3]);
        for (int f = 1; f <= 5; f++) due(step + ", then findings(" + f + ")", after[3 + f], before[3 + f]);
    }

    private long[] state() {
        calls += 9;
        return new long[] {x.digest(), x.asked(), x.many(), x.finding(), x.findings(1), x.findings(2), x.findings(3),
            x.findings(4), x.findings(5)};
    }

    private long ask(String[] words, int from) {
        Method m = METHODS.get(words[from]);
        Object[] given = new Object[m.getParameterCount()];
        for (int i = 0; i < given.length; i++) {
            String word = words[from + 1 + i];
            if (m.getParameterTypes()[i] == boolean.class) given[i] = word.equals("true");
            else given[i] = (int) number(word);
        }
        calls++;
        try {
            return ((Number) m.invoke(x, given)).longValue();
        } catch (ReflectiveOperationException e) {
            due(String.join(" ", words) + " threw " + e.getCause(), 0, 1);
            return 0;
        }
    }

    private static long number(String word) {
        Long named = NAMES.get(word);
        return named != null ? named : Long.parseLong(word);
    }

    private void due(String what, long got, long want) {
        Check.due(sentence + ": " + what, got, want);
    }
}
