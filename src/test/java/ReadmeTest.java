import java.lang.reflect.InvocationTargetException;
import java.lang.reflect.Method;
import java.nio.file.Files;
import java.nio.file.Path;
import java.util.regex.Matcher;
import java.util.regex.Pattern;

/** The calls of README.md, in its order, with the answers that stand behind them. Argument: the class's file. */
public final class ReadmeTest {
    private static final Pattern MADE = Pattern.compile("^TileLights lights = new TileLights\\(\\);$");
    private static final Pattern TOLD = Pattern.compile("^tell\\(lights, \"([^\"]*)\"\\);$");
    private static final Pattern CALLED = Pattern.compile("^lights\\.(\\w+)\\(([^)]*)\\); *// (throws \\w+|-?\\w+).*$");
    // Fewer would mean that the page is no longer read as it is written.
    private static final int LEAST = 30;
    private static TileLights lights;
    private static int calls = 0;
    private static int wrong = 0;

    public static void main(String[] args) throws Exception {
        Path page = Path.of(args[0]).toAbsolutePath().resolve("../../../../README.md").normalize();
        for (String line : Files.readAllLines(page)) read(line);
        if (calls < LEAST) {
            wrong++;
            System.out.println("only " + calls + " calls were found in " + page);
        }
        System.out.println(calls + " calls of README.md, " + wrong + " wrong");
        if (wrong != 0) System.exit(1);
    }

    private static void read(String line) throws Exception {
        if (MADE.matcher(line).matches()) lights = new TileLights();
        Matcher told = TOLD.matcher(line);
        if (told.matches()) Bounds.feed(lights, told.group(1));
        Matcher called = CALLED.matcher(line);
        if (!called.matches()) return;
        calls++;
        String got = answer(called.group(1), called.group(2));
        if (!got.equals(called.group(3))) {
            wrong++;
            System.out.println(line + ": answered " + got);
        }
    }

    private static String answer(String name, String list) throws Exception {
        String[] words = list.isEmpty() ? new String[0] : list.split(", *");
        Object[] values = new Object[words.length];
        for (int i = 0; i < words.length; i++) values[i] = Integer.parseInt(words[i]);
        for (Method m : TileLights.class.getMethods()) {
            if (!m.getName().equals(name) || m.getParameterCount() != values.length) continue;
            try {
                return String.valueOf(m.invoke(lights, values));
            } catch (InvocationTargetException e) {
                return "throws " + e.getCause().getClass().getSimpleName();
            }
        }
        return "no such call";
    }
}
