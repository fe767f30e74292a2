import java.io.IOException;
import java.lang.reflect.Method;
import java.lang.reflect.Modifier;
import java.nio.file.Files;
import java.nio.file.Path;
import java.util.ArrayList;
import java.util.List;
import java.util.stream.Stream;

/** README.md names each method and each test, and the answers of its example are those of the class. */
public final class ReadmeTest {
    private static final String OBJECT = "rows.";

    private final ArithmeticRows rows = new ArithmeticRows(4);
    private final List<String> example;
    private int line = 0;

    private ReadmeTest(List<String> example) {
        this.example = example;
    }

    /** The calls of the example: the lines that name the object, in their order. */
    private static List<String> callsIn(String text) {
        List<String> calls = new ArrayList<>();
        for (String written : text.split("\n")) {
            if (written.startsWith(OBJECT)) {
                calls.add(written);
            }
        }
        return calls;
    }

    /** The next line has this call; behind // stands its answer, as the first word. */
    private void next(String call, Object answer) {
        String written = line < example.size() ? example.get(line) : "";
        line++;
        Check.due("README, call " + line, written.startsWith(OBJECT + call + ";"), true);
        int at = written.indexOf("// ");
        String told = at < 0 ? "" : written.substring(at + 3).split("[ :,;]")[0];
        Check.due("README, answer of call " + line + ", " + call, told, String.valueOf(answer));
    }

    private void encoding() {
        next("encode(0, 1)", rows.encode(0, 1));
        next("state(0, 0)", rows.state(0, 0));
        next("save()", rows.save());
        next("encode(0, 1)", rows.encode(0, 1));
        next("back(0)", rows.back(0));
        next("whole(2, -340)", rows.whole(2, -340));
        next("whole(2, ArithmeticRows.OUT_OF_BAND)", rows.whole(2, ArithmeticRows.OUT_OF_BAND));
        next("raw(true)", rows.raw(true));
        next("encode(0, 1)", rows.encode(0, 1));
        next("encode(0, 0)", rows.encode(0, 0));
        next("finish()", rows.finish());
    }

    private void decoding() {
        next("byteAt(3)", rows.byteAt(3));
        next("feed(255)", rows.feed(255));
        next("decode(0)", rows.decode(0));
        next("save()", rows.save());
        next("decode(0)", rows.decode(0));
        next("back(1)", rows.back(1));
        next("readWhole(2)", rows.readWhole(2));
        next("readWhole(2)", rows.readWhole(2));
        next("beyond()", rows.beyond());
        next("raw(true)", rows.raw(true));
        next("decode(0)", rows.decode(0));
        next("decode(0)", rows.decode(0));
        next("beyond()", rows.beyond());
    }

    private void behindReset() {
        rows.reset();
        next("reset()", "");
        next("beyond()", rows.beyond());
        Check.due("README, calls in all", example.size(), line);
    }

    private static void methods(String text) {
        for (Method m : ArithmeticRows.class.getDeclaredMethods()) {
            if (Modifier.isPublic(m.getModifiers())) {
                Check.due("README tells of " + m.getName(), text.contains("\n- `" + m.getName() + "("), true);
            }
        }
        Check.due("README tells how it is made", text.contains("\n- `new ArithmeticRows("), true);
        Check.due("README tells of OUT_OF_BAND", text.contains("`OUT_OF_BAND`"), true);
    }

    private static void tests(String text) throws IOException {
        Check.due("README tells how tests are run", text.contains("\n.ci/run\n"), true);
        try (Stream<Path> files = Files.list(Path.of("src/test/java"))) {
            for (Path file : files.toList()) {
                String name = file.getFileName().toString().replace(".java", "");
                boolean isTest = name.endsWith("Test");
                Check.due("README tells of " + name, !isTest || text.contains("`" + name + "`"), true);
            }
        }
    }

    public static void main(String[] args) throws IOException {
        String text = Files.readString(Path.of("README.md"));
        ReadmeTest test = new ReadmeTest(callsIn(text));
        test.encoding();
        test.decoding();
        test.behindReset();
        methods(text);
        tests(text);
        Check.end();
    }
}
