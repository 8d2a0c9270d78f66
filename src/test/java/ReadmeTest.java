import java.io.IOException;
import java.lang.reflect.Method;
import java.nio.file.DirectoryStream;
import java.nio.file.Files;
import java.nio.file.Path;
import java.util.ArrayList;
import java.util.List;
import java.util.regex.Matcher;
import java.util.regex.Pattern;

/** README.md tells the class and its tests as they are. */
public final class ReadmeTest {
    private static final Check check = new Check("ReadmeTest");
    private static final Pattern TOLD = Pattern.compile("tell\\(x, \"([^\"]*)\"\\);");
    private static final Pattern ASKED =
        Pattern.compile("x\\.(\\w+)\\(([^)]*)\\);\\s+// (-?\\d+)(?:, ROW((?: -?\\d+)+))?: .+");

    public static void main(String[] args) throws Exception {
        String page = Files.readString(Path.of("README.md"));
        List<String> blocks = javaBlocks(page);
        check.is("blocks of Java", blocks.size(), 2);
        helper(blocks.get(0));
        example(blocks.get(1).split("\n"));
        texts(page);
        tests(page);
        check.end();
    }

    private static void tell(CardsAndBans x, String signs) {
        for (int i = 0; i < signs.length(); i += 4) {
            int four = 0;
            for (int k = i; k < i + 4; k++) {
                four = four << 8 | (k < signs.length() ? signs.charAt(k) : 0);
            }
            x.sign(four);
        }
        x.end(signs.length());
    }

    private static List<String> javaBlocks(String page) {
        List<String> found = new ArrayList<>();
        Matcher m = Pattern.compile("(?s)```java\n(.*?)```").matcher(page);
        while (m.find()) {
            found.add(m.group(1));
        }
        return found;
    }

    /** The helper of the page is the very one that runs the example here. */
    private static void helper(String block) throws IOException {
        String own = Files.readString(Path.of("src/test/java/ReadmeTest.java"));
        check.is("the helper", own.contains(("private " + block).indent(4)), true);
    }

    private static void example(String[] lines) throws Exception {
        check.is(lines[0], lines[0].equals("CardsAndBans x = new CardsAndBans();"), true);
        CardsAndBans x = new CardsAndBans();
        for (int i = 1; i < lines.length; i++) {
            Matcher told = TOLD.matcher(lines[i]);
            Matcher asked = ASKED.matcher(lines[i]);
            if (told.matches()) {
                tell(x, told.group(1));
            } else if (asked.matches()) {
                ask(x, asked);
            } else {
                check.is("a line that can't be read: " + lines[i], false, true);
            }
        }
    }

    private static void ask(CardsAndBans x, Matcher asked) throws Exception {
        String line = asked.group();
        long[] was = Check.rowOf(x);
        long due = Long.parseLong(asked.group(3));
        long got = call(x, asked.group(1), asked.group(2));
        if (asked.group(4) == null) {
            check.tells(x, line, got, due, was);
            return;
        }
        String[] numbers = asked.group(4).trim().split(" ");
        long[] row = new long[numbers.length];
        for (int i = 0; i < row.length; i++) {
            row[i] = Long.parseLong(numbers[i]);
        }
        check.tells(x, line, got, due, row);
    }

    private static long call(CardsAndBans x, String name, String args) throws Exception {
        String[] told = args.isEmpty() ? new String[0] : args.split(", ");
        for (Method m : CardsAndBans.class.getMethods()) {
            if (m.getName().equals(name) && m.getParameterCount() == told.length) {
                Object[] values = new Object[told.length];
                for (int i = 0; i < told.length; i++) {
                    if (m.getParameterTypes()[i] == boolean.class) {
                        values[i] = Boolean.valueOf(told[i]);
                    } else {
                        values[i] = Integer.valueOf(told[i]);
                    }
                }
                return ((Number) m.invoke(x, values)).longValue();
            }
        }
        throw new IllegalArgumentException(name);
    }

    /** Each text of the table can be read by the calls that it is told for. */
    private static void texts(String page) {
        Matcher m = Pattern.compile("(?m)^\\| (`.+`) \\| .* \\| `(.+)` \\|$").matcher(page);
        int rows = 0;
        while (m.find()) {
            rows++;
            for (String name : m.group(1).replace("`", "").split(", ")) {
                CardsAndBans x = new CardsAndBans();
                tell(x, "001111111111");
                x.squads();
                tell(x, m.group(2));
                check.is(name + " of " + m.group(2), read(x, name) >= 0, true);
                check.is(name + " empties it", x.count(10), 0);
            }
        }
        check.is("rows of the table", rows, 5);
    }

    private static long read(CardsAndBans x, String name) {
        switch (name) {
            case "squads":
                return x.squads();
            case "rules":
                return x.rules();
            case "play":
                return x.play(0, 0, 1);
            case "given":
                return x.given();
            case "plan":
                return x.plan(0);
            case "returns":
                return x.returns(0);
            default:
                return x.behind();
        }
    }

    /** Every test is named, and every name is that of a test. */
    private static void tests(String page) throws IOException {
        int files = 0;
        try (DirectoryStream<Path> all = Files.newDirectoryStream(Path.of("src/test/java"), "*Test.java")) {
            for (Path file : all) {
                files++;
                String name = file.getFileName().toString().replace(".java", "");
                check.is("README names " + name, page.contains("`" + name + "`"), true);
            }
        }
        check.is("tests", files > 0, true);
        Matcher m = Pattern.compile("`(\\w+Test)`").matcher(page);
        while (m.find()) {
            check.is(m.group(1), Files.exists(Path.of("src/test/java/" + m.group(1) + ".java")), true);
        }
    }
}
