import java.io.IOException;
import java.lang.reflect.Method;
import java.lang.reflect.Modifier;
import java.nio.file.DirectoryStream;
import java.nio.file.Files;
import java.nio.file.Path;
import java.util.TreeSet;
import java.util.regex.Matcher;
import java.util.regex.Pattern;

/** What README.md says is so: the example answers what it says, and every method and test is named. */
public final class ReadmeTest {
    private static final Due due = new Due();

    public static void main(String[] args) throws IOException {
        String readme = Files.readString(Path.of("README.md"));
        example(readme);
        everyMethod(readme);
        everyTest(readme);
        due.end();
    }

    private static void is(String what, boolean holds) {
        due.is(what, holds ? 1 : 0, 1);
    }

    /** A line of the example: the call as README.md has it, and the number at the end of its comment. */
    private static void line(String readme, String call, int answer, int said) {
        Matcher m = Pattern.compile(Pattern.quote(call) + " +//[^\n]*?(-?\\d+)(, the call)?\n").matcher(readme);
        due.is(call, answer, said);
        boolean found = false;
        while (m.find()) {
            found |= Integer.parseInt(m.group(1)) == said;
        }
        is(call + " stands in README.md with " + said, found);
    }

    private static void example(String readme) {
        MonthPage page = new MonthPage();
        is("the first line", readme.contains("new MonthPage();             // days 0 to 30, weeks from Monday, 4 rows"));
        due.is("its first day", page.told(0), 0);
        due.is("its last day", page.told(1), 30);
        due.is("weeks from Monday", page.told(2), 0);
        due.is("its rows", page.told(3), 4);
        int trip = page.add(2, 9, MonthPage.NONE, 0);
        line(readme, "int trip = page.add(2, 9, MonthPage.NONE, 0);", trip, 0);
        int call = page.add(8, 8, 600, 5);
        line(readme, "int call = page.add(8, 8, 600, 5);", call, 1);
        line(readme, "page.bar(trip, 1, 0);", page.bar(trip, 1, 0), 0);
        line(readme, "page.shown(8, 1);", page.shown(8, 1), 1);
        line(readme, "page.setRows(1);", page.setRows(1), 4);
        line(readme, "page.shown(8, 0);", page.shown(8, 0), -12);
        line(readme, "page.undo();", page.undo(), 2);
        due.is("4 rows again", page.told(3), 4);
        text(readme, page);
    }

    private static void text(String readme, MonthPage page) {
        String text = "2-9;8@10:00!5;";
        is("the text stands in README.md", readme.contains("for (char c : \"" + text + "\".toCharArray()) {"));
        int[] before = entries(page);
        for (char c : text.toCharArray()) {
            page.type(c);
        }
        line(readme, "page.load();", page.load(), 2);
        int[] then = entries(page);
        for (int k = 0; k < before.length; k++) {
            due.is("the same two entries [" + k + "]", then[k], before[k]);
        }
        page.type('7');
        due.is("the bytes typed", page.told(10), 15);
        line(readme, "page.load();", page.load(), -25);
    }

    private static int[] entries(MonthPage page) {
        int[] all = new int[8];
        for (int k = 0; k < all.length; k++) {
            all[k] = page.entry(k / 4, k % 4);
        }
        return all;
    }

    private static void everyMethod(String readme) {
        for (Method m : MonthPage.class.getDeclaredMethods()) {
            if (Modifier.isPublic(m.getModifiers())) {
                is("README.md names " + m.getName(), readme.contains("`" + m.getName() + "`"));
            }
        }
    }

    private static void everyTest(String readme) throws IOException {
        TreeSet<String> named = new TreeSet<>();
        Matcher m = Pattern.compile("(?m)^\\| (\\w+Test) \\|").matcher(readme);
        while (m.find()) {
            named.add(m.group(1));
        }
        TreeSet<String> there = new TreeSet<>();
        try (DirectoryStream<Path> files = Files.newDirectoryStream(Path.of("src/test/java"), "*Test.java")) {
            files.forEach(f -> there.add(f.getFileName().toString().replace(".java", "")));
        }
        is("the tests " + there + " are those of README.md: " + named, there.equals(named));
    }
}
