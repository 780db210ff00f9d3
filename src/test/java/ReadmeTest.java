import java.io.IOException;
import java.nio.file.DirectoryStream;
import java.nio.file.Files;
import java.nio.file.Path;
import java.util.TreeSet;
import java.util.regex.Matcher;
import java.util.regex.Pattern;

/** README.md: its examples stand here line by line and answer as it says; its table names every test. */
public final class ReadmeTest {
    private static final Path TESTS = Path.of("src/test/java");
    private static final Pattern EXAMPLE = Pattern.compile("```java\n(.*?)```", Pattern.DOTALL);
    private static final Pattern ROW = Pattern.compile("^\\| `(\\w+Test)` \\|", Pattern.MULTILINE);

    public static void main(String[] args) throws IOException {
        shipExample();
        vesselExample();
        String readme = Files.readString(Path.of("README.md"));
        examplesStandHere(readme);
        tableNamesEveryTest(readme);
        Bench.finish();
    }

    private static void shipExample() {
        SeaReceiver r = new SeaReceiver();
        // $GPVTG,5,T,,,,,,*33 and 13, 10
        r.feed(0x24475056, 0x54472C35, 0x2C542C2C, 0x2C2C2C2C, 0x2A33330D);
        r.feed(0x0A000000, 0, 0, 0, 0);
        r.end(21);               // of the forty signs the first 21 alone
        int taken = r.stream();  // 1
        int course = r.fix(12);  // 500, in hundredths of a degree
        Bench.due("taken", 1, taken);
        Bench.due("course", 500, course);
    }

    static void put(SeaReceiver r, String text) {
        int all = r.count(10) + text.length();
        for (int i = 0; i < text.length(); i += 20) {
            int[] w = new int[5];
            for (int k = 0; k < 20 && i + k < text.length(); k++) {
                w[k / 4] |= (text.charAt(i + k) & 255) << 24 - k % 4 * 8;
            }
            r.feed(w[0], w[1], w[2], w[3], w[4]);
        }
        r.end(all);
    }

    private static void vesselExample() {
        SeaReceiver r = new SeaReceiver();
        put(r, "!AIVDM,1,1,,A,13HOI:0P0000VK0LDGPQLOvL0000,0*6A\r\n");
        int taken = r.stream();         // 1
        int v = r.find(227006760);      // 0: the first one of the table
        int latitude = r.vessel(v, 7);  // 29693826, as the message has it
        int name = r.vessel(v, 31);     // 0: no sign of its name was told
        int type = r.bits(0, 6);        // 1: the first six bits of the latest message
        int signs = r.send(v, 18, 0);   // 49: out(0) to out(48)
        int onTape = r.again();         // 49
        int again = r.stream();         // 1
        int last = r.vessel(v, 1);      // 18
        r.clear();
        int vessels = r.count(9);       // 0
        int kept = r.count(11);         // 49: what was sent is still there
        Bench.due("taken", 1, taken);
        Bench.due("v", 0, v);
        Bench.due("latitude", 29693826, latitude);
        Bench.due("name", 0, name);
        Bench.due("type", 1, type);
        Bench.due("signs", 49, signs);
        Bench.due("out(48)", 10, r.out(48));
        Bench.due("out(49)", Bench.NONE, r.out(49));
        Bench.due("onTape", 49, onTape);
        Bench.due("again", 1, again);
        Bench.due("last", 18, last);
        Bench.due("vessels", 0, vessels);
        Bench.due("kept", 49, kept);
    }

    private static void examplesStandHere(String readme) throws IOException {
        String here = withoutIndent(Files.readString(TESTS.resolve("ReadmeTest.java")));
        Matcher m = EXAMPLE.matcher(readme);
        int examples = 0;
        while (m.find()) {
            examples++;
            String example = withoutIndent(m.group(1));
            Bench.due("an example that is not tested: " + example, 1, here.contains(example) ? 1 : 0);
        }
        Bench.due("examples", 3, examples);
    }

    private static String withoutIndent(String text) {
        return text.replaceAll("(?m)^ +", "");
    }

    private static void tableNamesEveryTest(String readme) throws IOException {
        TreeSet<String> tests = new TreeSet<>();
        try (DirectoryStream<Path> files = Files.newDirectoryStream(TESTS, "*Test.java")) {
            for (Path file : files) {
                tests.add(file.getFileName().toString().replace(".java", ""));
            }
        }
        TreeSet<String> rows = new TreeSet<>();
        Matcher m = ROW.matcher(readme);
        while (m.find()) {
            rows.add(m.group(1));
        }
        Bench.due("the tests of the table", tests.toString(), rows.toString());
    }
}
