import java.io.PrintWriter;
import java.io.StringWriter;
import java.lang.reflect.Constructor;
import java.lang.reflect.Field;
import java.lang.reflect.Method;
import java.lang.reflect.Modifier;
import java.nio.file.Files;
import java.nio.file.Path;
import java.util.ArrayList;
import java.util.HashMap;
import java.util.HashSet;
import java.util.List;
import java.util.Map;
import java.util.Set;
import java.util.TreeSet;
import java.util.regex.Matcher;
import java.util.regex.Pattern;
import java.util.spi.ToolProvider;

/** Rules of LANGUAGE.md that can be seen from the class and its text. Argument: the class's file. */
public final class LanguageTest {
    private static final String FACE = "feed end fault text rule triangle corner edge mask depth shade sample pixel tile bin shaded draw flush all clear"
        + " set move years status undo log step run perform layer shown whole shared border left orders shifts most image back count";
    private static int wrong = 0;

    public static void main(String[] args) throws Exception {
        face();
        names();
        depthOfCalls();
        if (args.length > 0) text(Files.readString(Path.of(args[0])));
        if (wrong != 0) System.exit(1);
        System.out.println("the rules that are looked at are kept");
    }

    private static void bad(String what) {
        wrong++;
        System.out.println(what);
    }

    private static void face() {
        Set<String> open = new TreeSet<>();
        for (Method m : TileLights.class.getDeclaredMethods()) {
            if (m.isSynthetic()) bad("a synthetic method " + m);
            if (Modifier.isPublic(m.getModifiers())) open.add(m.getName());
            else if (!Modifier.isPrivate(m.getModifiers())) bad("not private: " + m);
        }
        Set<String> told = new TreeSet<>(Set.of(FACE.split(" ")));
        if (!open.equals(told)) bad("the face is " + open);
        for (Field f : TileLights.class.getDeclaredFields()) {
            boolean constant = f.getName().equals("NONE") || f.getName().equals("HIDDEN");
            if (constant != Modifier.isPublic(f.getModifiers()) || !constant && !Modifier.isPrivate(f.getModifiers())) bad("field " + f);
        }
        if (TileLights.class.getDeclaredConstructors().length != 1) bad("more than one constructor");
        for (Class<?> c : TileLights.class.getDeclaredClasses()) {
            if (!Modifier.isStatic(c.getModifiers()) || Modifier.isPublic(c.getModifiers())) bad("class " + c);
        }
        if (TileLights.class.getDeclaredClasses().length > 12) bad("too many classes");
    }

    private static void names() {
        Set<String> told = new HashSet<>(Set.of(FACE.split(" ")));
        for (Class<?> c : TileLights.class.getDeclaredClasses()) {
            for (Method m : c.getDeclaredMethods()) {
                if (told.contains(m.getName())) bad("a name of the face: " + m);
                if (m.getParameterCount() > 7) bad("too many parameters: " + m);
            }
            int fields = 0;
            for (Field f : c.getDeclaredFields()) {
                if (!Modifier.isStatic(f.getModifiers())) fields++;
                else if (!Modifier.isFinal(f.getModifiers())) bad("static and not final: " + f);
            }
            if (fields > 20) bad("too many fields: " + c);
            for (Constructor<?> k : c.getDeclaredConstructors()) if (k.getParameterCount() > 7) bad("too many parameters: " + k);
        }
    }

    /** Who calls whom, as javap tells it; methods of one name in one class are taken together. */
    private static void depthOfCalls() {
        Map<String, Set<String>> calls = new HashMap<>();
        List<Class<?>> classes = new ArrayList<>(List.of(TileLights.class.getDeclaredClasses()));
        classes.add(TileLights.class);
        String folder = TileLights.class.getProtectionDomain().getCodeSource().getLocation().getPath();
        for (Class<?> c : classes) {
            StringWriter out = new StringWriter();
            PrintWriter writer = new PrintWriter(out);
            ToolProvider.findFirst("javap").orElseThrow().run(writer, writer, "-p", "-c", "-cp", folder, c.getName());
            String current = "";
            for (String line : out.toString().split("\n")) {
                Matcher method = Pattern.compile("^  [^:]*?([\\w$]+)\\([^)]*\\).*;\\s*$").matcher(line);
                Matcher call = Pattern.compile("invoke\\w+ .*Method ([^:]+):").matcher(line);
                if (method.find()) current = c.getName() + "." + method.group(1);
                else if (call.find()) {
                    String name = call.group(1).replace("\"", "");
                    calls.computeIfAbsent(current, k -> new TreeSet<>()).add(name.contains(".") ? name : c.getName() + "." + name);
                }
            }
        }
        if (calls.size() < 50) bad("javap tells of " + calls.size() + " methods that call");
        for (String name : FACE.split(" ")) {
            int depth = depthOf("TileLights." + name, calls, 1);
            if (depth > 8) bad(name + " goes " + depth + " calls deep");
        }
    }

    private static int depthOf(String name, Map<String, Set<String>> calls, int depth) {
        int deepest = depth;
        if (depth > 20) return depth;
        for (String called : calls.getOrDefault(name, Set.of())) deepest = Math.max(deepest, depthOf(called, calls, depth + 1));
        return deepest;
    }

    private static void text(String source) {
        String bare = source.replaceAll("(?s)/\\*.*?\\*/", "").replaceAll("//[^\n]*", "");
        for (int i = 0; i < source.length(); i++) if (source.charAt(i) > 126) { bad("a sign beyond 126"); break; }
        String[] never = {"\\bcatch\\b", "\\btry\\b", "\\bfinally\\b", "\\bsynchronized\\b", "\\bassert\\b", "->", "::", "\\bDouble\\b", "\\bdouble\\b",
            "\\bfloat\\b", "Exact\\b", "\\bSystem\\.(?!arraycopy)", "\\bThread\\b", "\\bRandom\\b", "\\bstatic \\{", "\\bpackage\\b", "\"\\s*\\+|\\+\\s*\""};
        for (String word : never) if (Pattern.compile(word).matcher(bare).find()) bad("not in the language: " + word);
        Matcher imports = Pattern.compile("import ([^;]+);").matcher(bare);
        while (imports.find()) {
            if (!imports.group(1).equals("java.util.Arrays") && !imports.group(1).equals("java.util.NoSuchElementException")) bad("import " + imports.group(1));
        }
        Matcher thrown = Pattern.compile("throw [^;]*;").matcher(bare);
        while (thrown.find()) if (!thrown.group().equals("throw new NoSuchElementException();")) bad(thrown.group());
        int length = 0;
        String name = "";
        for (String line : source.split("\n")) {
            if (line.matches(" {4}(?: {4})?[\\w<].*\\) (?:throws \\w+ )?\\{")) { name = line.trim(); length = 0; }
            length++;
            if (line.matches(" {4}(?: {4})?\\}") && length > 62) bad("a long method: " + name);
        }
    }
}
