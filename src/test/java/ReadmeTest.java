import java.io.IOException;
import java.io.InputStream;
import java.lang.reflect.Field;
import java.lang.reflect.Modifier;
import java.nio.charset.StandardCharsets;
import java.nio.file.Files;
import java.nio.file.Path;
import java.util.ArrayList;
import java.util.Arrays;
import java.util.List;
import java.util.Set;
import java.util.TreeSet;
import java.util.regex.Matcher;
import java.util.regex.Pattern;
import java.util.stream.Collectors;
import java.util.stream.Stream;

/**
 * README.md holds: its code compiles, its commands run, and each answer is the one that a comment there tells.
 *
 * <p>A java block is a class (kept as a file of that name), a static method, or statements that stand by themselves. Each
 * line of such statements that begins with a call ends with what is due: "x.at(0, 1); // 1: words". An sh block is run in
 * a copy of the project, and a text block behind it is what that printed.
 */
public final class ReadmeTest {
    private static final Path README = Path.of("README.md"), SOURCES = Path.of("src"), CI = Path.of(".ci/run");
    private static final Pattern CLASS = Pattern.compile("public final class (\\w+)");
    private static final Pattern CALL = Pattern.compile("x\\.(\\w+)\\(.*");
    private static final Pattern DUE = Pattern.compile("(x\\.(\\w+)\\(.*\\)); +// (?:(-?\\d+)|([A-Z]+))(?::.*)?");
    private static final Pattern REFUSAL = Pattern.compile("\\| `([A-Z]+)` \\| (-\\d+) \\|.*");
    private static final Pattern TEST_NAMED = Pattern.compile("`(\\w+)`");

    private record Block(String language, int line, List<String> lines) {
        String text() {
            return String.join("\n", lines) + "\n";
        }
    }

    public static void main(String[] args) throws IOException, InterruptedException, IllegalAccessException {
        List<String> page = Files.readAllLines(README);
        List<Block> blocks = blocks(page);
        Path copy = copyOfProject();
        keepClasses(blocks, copy);
        runCommands(blocks, copy);
        runUses(blocks, copy);
        everyCallIsUsed(blocks);
        everyRefusalIsTold(page);
        everyTestIsNamed(page);
        delete(copy);
        Check.end();
    }

    private static List<Block> blocks(List<String> page) {
        List<Block> all = new ArrayList<>();
        Block open = null;
        for (int i = 0; i < page.size(); i++) {
            String line = page.get(i);
            if (!line.startsWith("```")) {
                if (open != null) open.lines.add(line);
            } else if (open == null) {
                open = new Block(line.substring(3), i + 2, new ArrayList<>());
            } else {
                all.add(open);
                open = null;
            }
        }
        Check.due("README.md: a block that is left open", open == null ? 0 : 1, 0);
        Set<String> languages = all.stream().map(Block::language).collect(Collectors.toCollection(TreeSet::new));
        due("README.md: languages of its blocks", languages.toString(), "[java, sh, text]");
        return all;
    }

    private static Path copyOfProject() throws IOException {
        Path copy = Files.createTempDirectory("readme");
        try (Stream<Path> files = Files.walk(SOURCES)) {
            for (Path one : (Iterable<Path>) files::iterator) Files.copy(one, copy.resolve(one.toString()));
        }
        return copy;
    }

    private static void keepClasses(List<Block> blocks, Path copy) throws IOException {
        for (Block one : blocks) {
            Matcher told = CLASS.matcher(one.text());
            if (one.language.equals("java") && told.lookingAt()) {
                Files.writeString(copy.resolve(told.group(1) + ".java"), one.text());
            }
        }
    }

    private static void runCommands(List<Block> blocks, Path copy) throws IOException, InterruptedException {
        int compared = 0;
        for (int i = 0; i < blocks.size(); i++) {
            Block one = blocks.get(i);
            if (!one.language.equals("sh")) continue;
            if (one.text().contains(CI.toString())) {
                // it runs this test, so it can't be run by it
                Check.due("README.md line " + one.line + ": the script is there", Files.isExecutable(CI) ? 1 : 0, 1);
                continue;
            }
            String printed = run(copy, one.line, one.text());
            Block next = i + 1 < blocks.size() ? blocks.get(i + 1) : one;
            if (!next.language.equals("text")) continue;
            due("README.md line " + next.line + ": what is printed", printed, next.text());
            compared++;
        }
        Check.due("README.md: text blocks that tell what a command prints", compared,
            blocks.stream().filter(one -> one.language.equals("text")).count());
    }

    /** What commands print; they must end with exit code 0. */
    private static String run(Path place, int line, String commands) throws IOException, InterruptedException {
        Process process = new ProcessBuilder("sh", "-e", "-c", commands).directory(place.toFile()).redirectErrorStream(true).start();
        process.getOutputStream().close();
        String printed;
        try (InputStream out = process.getInputStream()) {
            printed = new String(out.readAllBytes(), StandardCharsets.UTF_8);
        }
        int code = process.waitFor();
        if (code != 0) System.out.print(printed);
        Check.due("README.md line " + line + ": exit code of the commands there", code, 0);
        return printed;
    }

    private static void runUses(List<Block> blocks, Path copy) throws IOException, InterruptedException {
        StringBuilder members = new StringBuilder();
        StringBuilder main = new StringBuilder();
        for (Block one : blocks) {
            if (!one.language.equals("java") || CLASS.matcher(one.text()).lookingAt()) continue;
            if (one.lines.stream().anyMatch(line -> line.startsWith("static "))) {
                members.append(one.text());
                continue;
            }
            members.append("static void use").append(one.line).append("() {\n").append(looked(one)).append("}\n");
            main.append("use").append(one.line).append("();\n");
        }
        Files.writeString(copy.resolve("Uses.java"), "final class Uses {\n" + members + "public static void main(String[] args) {\n"
            + main + "Check.end();\n}\n}\n");
        System.out.print("uses of README.md: " + run(copy, 1, "javac -encoding UTF-8 -d uses src/main/java/LostRoom.java "
            + "src/test/java/Check.java Uses.java\njava -cp uses Uses\n"));
    }

    /** The statements of a block, each call that stands by itself looked at. */
    private static String looked(Block one) {
        StringBuilder statements = new StringBuilder();
        int looked = 0;
        for (int i = 0; i < one.lines.size(); i++) {
            String line = one.lines.get(i);
            Matcher due = DUE.matcher(line);
            if (!due.matches()) {
                Check.due("README.md line " + (one.line + i) + ": calls without what they answer", CALL.matcher(line).matches() ? 1 : 0, 0);
                statements.append(line).append('\n');
                continue;
            }
            looked++;
            String want = due.group(3) != null ? due.group(3) + "L" : "LostRoom." + due.group(4);
            String told = "README.md line " + (one.line + i) + ": " + due.group(1);
            statements.append("Check.due(\"").append(told.replace("\"", "\\\"")).append("\", ").append(due.group(1)).append(", ")
                .append(want).append(");\n");
        }
        Check.due("README.md line " + one.line + ": answers told there, one at least", Math.min(looked, 1), 1);
        return statements.toString();
    }

    private static void everyCallIsUsed(List<Block> blocks) {
        Set<String> used = new TreeSet<>();
        for (Block one : blocks) {
            for (String line : one.lines) {
                Matcher due = DUE.matcher(line);
                if (due.matches()) used.add(due.group(2));
            }
        }
        Set<String> face = Arrays.stream(LostRoom.class.getDeclaredMethods()).filter(m -> Modifier.isPublic(m.getModifiers()))
            .map(m -> m.getName()).collect(Collectors.toCollection(TreeSet::new));
        due("README.md: calls whose answers it tells", used.toString(), face.toString());
    }

    private static void everyRefusalIsTold(List<String> page) throws IllegalAccessException {
        Set<String> told = new TreeSet<>();
        for (String line : page) {
            Matcher refusal = REFUSAL.matcher(line);
            if (refusal.matches()) told.add(refusal.group(1) + " " + refusal.group(2));
        }
        Set<String> constants = new TreeSet<>();
        for (Field one : LostRoom.class.getDeclaredFields()) {
            if (Modifier.isPublic(one.getModifiers())) constants.add(one.getName() + " " + one.getInt(null));
        }
        due("README.md: refusals that it tells", told.toString(), constants.toString());
    }

    private static void everyTestIsNamed(List<String> page) throws IOException {
        Set<String> named = new TreeSet<>();
        Matcher names = TEST_NAMED.matcher(String.join("\n", page));
        while (names.find()) if (names.group(1).endsWith("Test")) named.add(names.group(1));
        Set<String> there = new TreeSet<>();
        try (Stream<Path> files = Files.walk(SOURCES)) {
            for (Path one : (Iterable<Path>) files::iterator) {
                String name = one.getFileName().toString();
                if (name.endsWith("Test.java")) there.add(name.substring(0, name.length() - 5));
            }
        }
        due("README.md: tests that it names", named.toString(), there.toString());
    }

    private static void delete(Path folder) throws IOException {
        try (Stream<Path> files = Files.walk(folder)) {
            List<Path> all = files.collect(Collectors.toList());
            for (int i = all.size() - 1; i >= 0; i--) Files.delete(all.get(i));
        }
    }

    private static void due(String what, String got, String want) {
        Check.due(what, got.equals(want) ? 1 : 0, 1);
        if (!got.equals(want)) System.out.println("  got:  " + got + "\n  want: " + want);
    }
}
