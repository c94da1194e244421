import java.io.IOException;
import java.lang.reflect.Method;
import java.lang.reflect.Modifier;
import java.nio.file.Files;
import java.nio.file.Path;
import java.util.List;

/** The example of README.md: the lines stand there, and answer what it says behind them. */
public final class ReadmeTest {
    private static String readme = "";

    public static void main(String[] args) throws IOException {
        readme = Files.readString(Path.of("README.md"));
        example();
        calls();
        Check.end();
    }

    private static void example() {
        OrdinalRink rink = new OrdinalRink();
        rink.event(3, 3);
        int[][] seconds = {{50, 49, 40}, {49, 50, 40}, {50, 49, 40}};
        for (int judge = 0; judge < 3; judge++) {
            for (int skater = 0; skater < 3; skater++) {
                rink.mark(1, judge, skater, 45, seconds[judge][skater]);
            }
        }
        says("rink.ordinal(1, 2, 1)", rink.ordinal(1, 2, 1));
        says("rink.placing(1, 1, 4)", rink.placing(1, 1, 4));
        says("rink.step(1, 0, 1)", rink.step(1, 0, 1));
        says("rink.needed(1, 1, 1)", rink.needed(1, 1, 1));
        says("rink.needed(1, 2, 1)", rink.needed(1, 2, 1));
        says("rink.deduct(1, 0, 0, 2)", rink.deduct(1, 0, 0, 2));
        says("rink.placing(1, 0, 4)", rink.placing(1, 0, 4));
        says("rink.publish(1)", rink.publish(1));
        says("rink.total(0)", rink.total(0));
        says("rink.rank(0)", rink.rank(0));
        says("rink.proof(1, 0)", rink.proof(1, 0));
        for (int p = 0; p < rink.length(); p++) {
            rink.type(rink.charAt(p));
        }
        says("rink.check(1)", rink.check(1));
        Check.is("README.md's proof", 1, readme.contains("`" + Rinks.pageOf(rink) + "`") ? 1 : 0);
    }

    /** A line of the example is a call, with its answer first in the comment. */
    private static void says(String call, int answer) {
        List<String> lines = readme.lines().filter(line -> line.startsWith(call + ";")).toList();
        Check.is("README.md's lines with " + call, 1, lines.size());
        for (String line : lines) {
            String comment = line.replaceFirst(".*// ", "");
            Check.is("README.md's " + call, String.valueOf(answer), comment.replaceFirst("[:,].*", ""));
        }
    }

    private static void calls() {
        for (Method method : OrdinalRink.class.getDeclaredMethods()) {
            if (Modifier.isPublic(method.getModifiers())) {
                boolean named = readme.contains("| `" + method.getName() + "(");
                Check.is("README.md's table has " + method.getName(), 1, named ? 1 : 0);
            }
        }
    }
}
