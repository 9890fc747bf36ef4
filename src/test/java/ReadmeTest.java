import java.io.IOException;
import java.lang.reflect.Method;
import java.lang.reflect.Modifier;
import java.nio.file.Files;
import java.nio.file.Path;
import java.util.List;

/** The example in README.md answers what stands behind its calls, call by call; and README.md names every call. */
public final class ReadmeTest {
    private static final Checks CHECKS = new Checks();
    private static List<String> example;
    private static int at = 0;

    public static void main(String[] args) throws IOException {
        String page = Files.readString(Path.of(System.getProperty("milkfirst.readme")));
        namesAllCalls(page);
        int start = page.indexOf("```java\n") + "```java\n".length();
        example = page.substring(start, page.indexOf("```", start)).lines().toList();
        runExample();
        CHECKS.due("lines of the example run here", at, example.size());
        CHECKS.end("ReadmeTest");
    }

    private static void namesAllCalls(String page) {
        for (Method method : MilkFirst.class.getDeclaredMethods()) {
            if (!Modifier.isPublic(method.getModifiers())) continue;
            CHECKS.holds("README.md names " + method.getName(), page.contains("`" + method.getName() + "`"));
        }
    }

    private static void runExample() {
        MilkFirst x = new MilkFirst();
        CHECKS.holds("the example begins with an object", line().equals("MilkFirst x = new MilkFirst();"));
        int plan = x.plan(1, 8, 4);
        says("int plan = x.plan(1, 8, 4);", plan);
        says("x.odds(plan, 5, 8, 0);", x.odds(plan, 5, 8, 0));
        says("x.odds(plan, 5, 8, 1);", x.odds(plan, 5, 8, 1));
        says("x.line(plan, 50);", x.line(plan, 50));
        says("x.fewest(1, 50, 9, 800);", x.fewest(1, 50, 9, 800));
        says("x.feed(3, 'r' | '=' << 8 | 's' << 16);", x.feed(3, 'r' | '=' << 8 | 's' << 16));
        int rule = x.rule();
        says("int rule = x.rule();", rule);
        says("x.believed(rule, plan, 9, 0);", x.believed(rule, plan, 9, 0));
        says("x.believed(rule, plan, 9, 1);", x.believed(rule, plan, 9, 1));
        says("x.belief(plan, 9, 1, 9, 80);", x.belief(plan, 9, 1, 9, 80));
        says("x.feed(1, 'r');", x.feed(1, 'r'));
        says("x.rule();", x.rule());
        says("x.bestLot(plan);", x.bestLot(plan));
        says("x.sit(plan, 6, true);", x.sit(plan, 6, true));
        says("x.sit(plan, 8, false);", x.sit(plan, 8, false));
        says("x.turned(plan, 500);", x.turned(plan, 500));
        says("x.size(7);", x.size(7));
        says("x.odds(7, 5, 8, 0);", x.odds(7, 5, 8, 0));
        says("x.lean(7, 15);", x.lean(7, 15));
        says("x.count(11);", x.count(11));
    }

    /** The example's next line is this call, and begins what it tells of it with the answer. */
    private static void says(String call, long got) {
        String line = line();
        CHECKS.holds("\"" + line + "\" tells " + call + " answers " + got,
            line.matches("\\Q" + call + "\\E *// " + got + "\\b.*"));
    }

    private static String line() {
        String line = at < example.size() ? example.get(at) : "";
        at++;
        return line;
    }
}
