import java.io.File;
import java.io.IOException;
import java.io.UncheckedIOException;
import java.lang.reflect.Field;
import java.lang.reflect.Method;
import java.lang.reflect.Modifier;
import java.nio.file.Files;
import java.nio.file.Path;
import java.util.List;
import java.util.Set;
import java.util.TreeSet;
import java.util.regex.Matcher;
import java.util.regex.Pattern;

/** What README.md says of the class and of the tests; it is run from the project's directory. */
public final class ReadmeTest {
    private static final Path README = Path.of("README.md");
    private static final Path TESTS = Path.of("src/test/java");

    public static void main(String[] args) {
        Check check = new Check();
        check.sentence("README: the lines of the example, as they are tested here", ReadmeTest::linesOfExample);
        check.sentence("README: the answers in the example", ReadmeTest::example);
        check.sentence("README: the modes of the calls", ReadmeTest::modes);
        check.sentence("README: the types", ReadmeTest::types);
        check.sentence("README: the constants", ReadmeTest::constants);
        check.sentence("README: the tests", ReadmeTest::tests);
        check.end();
    }

    private static List<String> linesOf(Path file) {
        try {
            return Files.readAllLines(file);
        } catch (IOException missing) {
            throw new UncheckedIOException(missing);
        }
    }

    private static String readme() {
        return String.join("\n", linesOf(README));
    }

    /** The lines of code in README.md stand below, one behind the other, with the same comments. */
    private static void linesOfExample(Check c) {
        List<String> tested = linesOf(TESTS.resolve("ReadmeTest.java")).stream().map(String::strip).toList();
        boolean code = false;
        int shown = 0;
        int place = tested.indexOf("private static void example(Check c) {");
        for (String line : linesOf(README)) {
            if (line.startsWith("```")) {
                code = line.equals("```java");
            } else if (code) {
                shown++;
                place++;
                String here = place < tested.size() ? tested.get(place) : "nothing";
                c.due(line + " against " + here, line.strip().equals(here), true);
            }
        }
        c.due("lines of code", shown > 20, true);
    }

    private static void example(Check c) {
        SlabImage store = new SlabImage();
        int time = store.dimension('t', 0);                // 0, its number; length 0: the growing one
        int place = store.dimension('p', 3);               // 1
        int heat = store.variable('h', 3, time, place);    // 0, its number; type 3: SHORT
        int unit = store.attribute(heat, 'u', 2, 'o', 'C'); // 0: done
        int bytes = store.seal();                          // 116, the size of the image; the mode is DATA
        int put = store.put(heat, 1, 2, 215);              // 0: done; there are two records now
        long fill = store.get(heat, 0, 0);                 // -32767, the fill value of SHORT
        long none = store.get(heat, 2, 0);                 // NOVALUE: there is no record 2
        store.select(0, 0, 2, 1);                          // i = 0, 1
        store.select(1, 0, 3, 1);                          // j = 0, 1, 2
        int cells = store.putSlab(heat, 200, 1);           // 6 cells: 200 .. 205
        long last = store.getSlab(heat, 5);                // 205
        SlabImage copy = new SlabImage();
        int size = store.size();                           // 128
        for (int k = 0; 8 * k < size; k++) {
            copy.add(store.eight(k), Math.min(8, size - 8 * k));
        }
        int opened = copy.open();                          // 128; the mode is DATA
        long same = copy.get(heat, 1, 2);                  // 205
        copy.redefine();                                   // the mode is DEFINING
        copy.rename(false, place, 'q');                    // dimension 1 has another name
        copy.drop(heat, 'u');                              // its attribute is gone
        int tall = copy.variable('z', 4, -1, -1);          // 1; type 4: INT, without axes
        int grown = copy.seal();                           // 144
        int begin = copy.begin(heat);                      // 132, where its cells start
        int records = copy.records();                      // 2
        c.due("time", time, 0);
        c.due("place", place, 1);
        c.due("heat", heat, 0);
        c.due("unit", unit, 0);
        c.due("bytes", bytes, 116);
        c.due("put", put, 0);
        c.due("fill", fill, -32767);
        c.due("none", none, SlabImage.NOVALUE);
        c.due("cells", cells, 6);
        for (int n = 0; n < 6; n++) {
            c.due("cell " + n, store.get(heat, n / 3, n % 3), 200 + n);
        }
        c.due("last", last, 205);
        c.due("size", size, 128);
        c.due("opened", opened, 128);
        c.due("same", same, 205);
        c.due("tall", tall, 1);
        c.due("grown", grown, 144);
        c.due("begin", begin, 132);
        c.due("records", records, 2);
    }

    /** Each call stands in the table once, in the row of its mode. */
    private static void modes(Check c) {
        Set<String> shown = new TreeSet<>();
        Matcher row = Pattern.compile("(?m)^\\| (DEFINING|DATA|any) +\\|(.*)\\|$").matcher(readme());
        while (row.find()) {
            Matcher call = Pattern.compile("`(\\w+)`").matcher(row.group(2));
            while (call.find()) {
                shown.add(call.group(1) + " " + row.group(1));
            }
        }
        Set<String> due = new TreeSet<>();
        for (Method m : SlabImage.class.getDeclaredMethods()) {
            if (Modifier.isPublic(m.getModifiers())) {
                due.add(m.getName() + " " + modeOf(m.getName()));
            }
        }
        c.due("the calls with their modes " + shown, shown.equals(due), true);
    }

    private static String modeOf(String call) {
        return switch (call) {
            case "dimension", "variable", "attribute", "drop", "rename", "seal" -> "DEFINING";
            case "select", "records", "add", "erase", "open" -> "any";
            default -> "DATA";
        };
    }

    private static void types(Check c) {
        Matcher row = Pattern.compile("(?m)^\\| (\\d) \\w+ +\\| (-?\\d+) \\.\\. (\\d+) +\\| (\\d) +\\| (-?\\d+) +\\|$")
                .matcher(readme());
        int shown = 0;
        while (row.find()) {
            shown++;
            int type = Integer.parseInt(row.group(1));
            SlabImage x = new SlabImage();
            x.dimension('a', 4);
            x.variable('A', type, 0, -1);
            int header = 80;
            c.due("four of type " + type, x.seal() - header, 4 * Integer.parseInt(row.group(4)));
            c.due("fill of type " + type, x.get(0, 0, 0), Integer.parseInt(row.group(5)));
            limit(c, x, Long.parseLong(row.group(2)), -1);
            limit(c, x, Long.parseLong(row.group(3)), 1);
        }
        c.due("types", shown, 4);
    }

    private static void limit(Check c, SlabImage x, long value, int beyond) {
        c.due("put of " + value, x.put(0, 0, 0, (int) value), 0);
        if (value + beyond == (int) (value + beyond)) {
            c.due("put beyond " + value, x.put(0, 0, 0, (int) value + beyond), SlabImage.RANGE);
        }
    }

    private static void constants(Check c) {
        String readme = readme();
        for (Field f : SlabImage.class.getFields()) {
            String value = "" + valueOf(f);
            boolean table = Pattern.compile("\\| `" + f.getName() + "` +\\| " + value + " +\\|").matcher(readme).find();
            boolean text = readme.contains("`" + f.getName() + "` (" + value + ")");
            c.due(f.getName() + " with " + value, table || text, true);
        }
    }

    private static long valueOf(Field f) {
        try {
            return f.getLong(null);
        } catch (IllegalAccessException hidden) {
            throw new IllegalStateException(hidden);
        }
    }

    private static void tests(Check c) {
        Set<String> named = new TreeSet<>();
        Matcher name = Pattern.compile("`(\\w+Test)`").matcher(readme());
        while (name.find()) {
            named.add(name.group(1) + ".java");
        }
        Set<String> there = new TreeSet<>();
        for (File file : TESTS.toFile().listFiles()) {
            if (file.getName().endsWith("Test.java")) {
                there.add(file.getName());
            }
        }
        c.due("named " + named + ", there are " + there, named.equals(there), true);
    }
}
