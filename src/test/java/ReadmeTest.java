import java.io.IOException;
import java.lang.reflect.Method;
import java.lang.reflect.Modifier;
import java.nio.file.Files;
import java.nio.file.Path;
import java.util.List;
import java.util.regex.Matcher;
import java.util.regex.Pattern;
import java.util.stream.Stream;

/**
 * README.md says how to use the class and how to run its tests: its code stands here word for word
 * and is run, and the page names every call and every test.
 */
public final class ReadmeTest {
    private static final Due due = new Due();

    public static void main(String[] args) throws IOException {
        example();
        if (args.length > 0) {
            Path home = Path.of(args[0]).toAbsolutePath().normalize().resolve("../../../..").normalize();
            page(Files.readString(home.resolve("README.md")), home.resolve("src/test/java"));
        }
        due.end();
    }

    static int feed(GazetteHouse house, String text) {
        int[] five = new int[5];
        for (int at = 0; at < text.length(); at += 20) {
            for (int i = at; i < at + 20; i++) {
                int sign = i < text.length() ? text.charAt(i) : ' ';
                five[(i - at) / 4] = five[(i - at) / 4] << 8 | sign & 255;
            }
            house.feed(five[0], five[1], five[2], five[3], five[4]);
        }
        return text.length();
    }

    private static void example() {
        GazetteHouse house = new GazetteHouse();
        house.feast(25, true);                                                  // no working day
        int form = house.form(feed(house, "who: word; heard: day; ends: span 2 work heard"));
        int first = house.notice(form, feed(house, "who = ann; heard = 24"), 10, 20);   // 10 lines, due on 20
        long ends = house.value(first, 2);              // 29: the feast and the week's last two days don't count
        house.says(first, 1, 42, 100);                  // key 1 is 42 from day 100 on
        int issue = house.issue(15, 22, 1, 60);         // on day 15, the next on 22, a page of 60 lines
        int second = house.notice(form, feed(house, "who = bob; heard = 24"), 10, 30);
        house.says(second, 1, 43, 100);
        house.corrects(second, first);
        house.issue(22, 31, 1, 60);
        int unheard = house.law(1, 150, 14);            // NO_LAW: nothing is printed yet
        int held = house.law(1, 150, 15);               // 42
        int holds = house.law(1, 150, 22);              // 43, and house.isVoid(first, 22) is 1
        int late = house.says(first, 2, 7, 100);        // NONE, and house.trouble() is 6: it is printed
        due.part("the example");
        due.is("form", form, 0);
        due.is("first", first, 0);
        due.is("ends", ends, 29);
        due.is("issue", issue, 0);
        due.is("second", second, 1);
        due.is("unheard", unheard, GazetteHouse.NO_LAW);
        due.is("held", held, 42);
        due.is("holds", holds, 43);
        due.is("isVoid(first, 22)", house.isVoid(first, 22), 1);
        due.is("late", late, GazetteHouse.NONE);
        due.is("trouble()", house.trouble(), 6);
    }

    private static void page(String page, Path tests) throws IOException {
        due.part("README.md");
        List<String> here = Files.readString(tests.resolve("ReadmeTest.java")).lines().map(String::strip).toList();
        Matcher code = Pattern.compile("(?s)```java\n(.*?)```").matcher(page);
        int blocks = 0;
        while (code.find()) {
            blocks++;
            List<String> block = code.group(1).lines().map(String::strip).toList();
            due.is("code block " + blocks + " is run here", java.util.Collections.indexOfSubList(here, block) >= 0, true);
        }
        due.is("code blocks", blocks, 2);
        for (Method m : GazetteHouse.class.getDeclaredMethods()) {
            if (Modifier.isPublic(m.getModifiers())) {
                due.is("it names " + m.getName(), page.contains("`" + m.getName() + "`"), true);
            }
        }
        due.is("it says how to run the tests", page.contains("    .ci/run\n"), true);
        try (Stream<Path> all = Files.list(tests)) {
            for (Path test : all.filter(p -> p.toString().endsWith("Test.java")).toList()) {
                String name = test.getFileName().toString().replace(".java", "");
                due.is("it names " + name, page.contains("| " + name + " |"), true);
            }
        }
    }
}
