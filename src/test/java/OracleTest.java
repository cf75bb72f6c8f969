import java.lang.reflect.InvocationTargetException;
import java.lang.reflect.Method;
import java.lang.reflect.Modifier;
import java.util.ArrayList;
import java.util.List;
import java.util.Random;

/** Random runs of up to 512 calls, each answered by the class and by the oracle. Arguments: the class's file (not used), runs, first seed. */
public final class OracleTest {
    private static final String[] LOOKS = {
        "rule", "triangle", "corner", "edge", "mask", "depth", "shade", "sample", "pixel", "tile", "bin", "shaded",
        "status", "log", "step", "run", "layer", "shown", "whole", "shared", "border", "left", "orders", "shifts",
        "most", "count", "fault"};
    private static final int[] ODD = {Integer.MIN_VALUE, Integer.MIN_VALUE + 1, -1000000000, -100, -21, -2, 11, 12, 61, 100, 161, 1000000, Integer.MAX_VALUE};

    private final Random random;
    private final TileLights real = new TileLights();
    private final Oracle oracle = new Oracle();
    private final List<String> told = new ArrayList<>();
    // CORNERS of the SCENE ahead: at times they come again, with all else changed.
    private final List<int[]> lain = new ArrayList<>();
    private boolean again = false;
    private int calls = 0;
    private boolean wrong = false;

    private OracleTest(long seed) {
        random = new Random(seed);
    }

    public static void main(String[] args) throws Exception {
        int runs = args.length > 1 ? Integer.parseInt(args[1]) : 150;
        long first = args.length > 2 ? Long.parseLong(args[2]) : 1L;
        int bad = 0;
        for (long seed = first; seed < first + runs && bad < 3; seed++) {
            OracleTest test = new OracleTest(seed);
            test.go();
            if (test.wrong) {
                bad++;
                System.out.println("seed " + seed + ":");
                int n = test.told.size();
                for (String line : test.told.subList(Math.max(0, n - 30), n)) System.out.println("  " + line);
            }
        }
        System.out.println(bad == 0 ? "the oracle says the same in " + runs + " runs" : bad + " runs differ");
        if (bad != 0) System.exit(1);
    }

    private int below(int n) {
        return random.nextInt(n);
    }

    private boolean chance(int of) {
        return random.nextInt(of) == 0;
    }

    private void go() throws Exception {
        if (chance(3)) for (int i = below(20); i > 0; i--) look();
        while (calls < 512 && !wrong) {
            int d = below(100);
            if (calls < 30 || chance(120)) tellText(sceneText(), 0);
            else if (d < 2) tellText(scriptText(), 1);
            else if (d < 3) tellText(broken(chance(2) ? sceneText() : scriptText()), below(3) - (chance(20) ? 1 : 0));
            else if (d < 35) actOrSo();
            else if (d < 37) for (int what = 0; what < 4; what++) call("most", what);
            else look();
        }
    }

    private void actOrSo() throws Exception {
        int t = below(10);
        switch (below(16)) {
            case 0: case 1: case 2: case 3: case 4: call("draw", some(6, 10)); break;
            case 5: case 6: call("flush", some(4, 17)); break;
            case 7: call("all"); break;
            case 8: if (chance(3)) call("clear"); break;
            case 9: case 10: {
                int what = some(4, 5);
                call("set", what, what == 3 ? some(5, 12) : some(3, 4));
                break;
            }
            case 11: call("move", some(4, 10), some(3, 4), some(9, 25) - (chance(2) ? 4 : 0), some(9, 25) - (chance(2) ? 4 : 0)); break;
            case 12: call("years", chance(2) ? 1 + below(6) : some(41, 43), chance(3) ? random.nextLong() : (long) below(100)); break;
            case 13: for (int i = chance(4) ? below(45) : 1 + below(3); i > 0; i--) call("undo"); break;
            case 14: call(chance(2) ? "image" : "back"); break;
            default: call("perform", some(4, 5)); break;
        }
    }

    /** Mostly below the first bound, at times below the second, rarely anything. */
    private int some(int usual, int wide) {
        if (chance(40)) return ODD[below(ODD.length)];
        if (chance(12)) return below(wide + 1) - 1;
        return below(usual);
    }

    private void look() throws Exception {
        String name = LOOKS[below(LOOKS.length)];
        int t = some(4, 10);
        int x = some(5, 9);
        int y = some(5, 9);
        int k = some(2, 5);
        switch (name) {
            case "rule": call(name, some(10, 11)); break;
            case "triangle": call(name, t, some(12, 13)); break;
            case "corner": call(name, t, some(3, 4), some(3, 4)); break;
            case "edge": call(name, t, some(3, 4), some(64, 170), some(64, 170) - (chance(4) ? 100 : 0)); break;
            case "mask": case "shade": call(name, t, x, y); break;
            case "depth": call(name, t, x, y, k); break;
            case "sample": call(name, x, y, k, some(3, 4)); break;
            case "pixel": case "shown": case "whole": call(name, x, y); break;
            case "tile": call(name, some(4, 17), some(5, 6)); break;
            case "bin": call(name, some(4, 17), some(4, 11)); break;
            case "shaded": case "left": call(name, t); break;
            case "status": call(name, some(4, 5)); break;
            case "log": call(name, some(30, 62), some(3, 4)); break;
            case "step": call(name, some(4, 5), some(6, 13), some(5, 6)); break;
            case "run": call(name, some(4, 5), some(2, 3)); break;
            case "layer": call(name, x, y, k, some(3, 10)); break;
            case "shared": call(name, t, some(4, 10), some(2, 3)); break;
            case "border": call(name, t, some(4, 10), some(3, 4)); break;
            case "orders": if (chance(3)) call(name, some(3, 4)); break;
            case "shifts": if (chance(2)) call(name, t, 1 + some(2, 4), some(3, 4)); break;
            case "most": call(name, some(10, 11)); break;
            case "count": call(name, some(6, 7)); break;
            default: call(name, some(2, 3)); break;
        }
    }

    private String sceneText() {
        List<String> clauses = new ArrayList<>();
        boolean small = chance(2);
        if (small || chance(2)) clauses.add("size " + (1 + below(small ? 4 : 8)) + "," + (1 + below(small ? 4 : 8)));
        if (!chance(3)) clauses.add("tile " + (2 + below(3)));
        if (!chance(3)) clauses.add("many " + (1 << below(3)));
        if (chance(2)) clauses.add("back " + below(256));
        if (chance(3)) clauses.add("cull " + below(3));
        if (chance(2)) clauses.add("test " + below(2));
        if (chance(2)) clauses.add("late " + below(2));
        if (!chance(3)) clauses.add("room " + (1 + below(chance(2) ? 3 : 10)));
        int n = 1 + below(chance(3) ? 10 : 6);
        again = chance(2) && !lain.isEmpty();
        if (!again) lain.clear();
        for (int i = 0; i < n; i++) {
            String triangle = triangleText(i);
            clauses.add(again || chance(2) ? clauses.size() : below(clauses.size() + 1), triangle);
        }
        return spaced(String.join(";", clauses));
    }

    private String triangleText(int number) {
        StringBuilder text = new StringBuilder(new String[] {"flat", "check", "rows", "deep"}[below(4)]).append(' ');
        int grain = new int[] {1, 1, 4, 8, 8}[below(5)];
        int reach = chance(4) ? 99 : 8;
        boolean level = chance(3);
        int z = below(chance(3) ? 1000 : 8);
        int[] at = new int[6];
        for (int i = 0; i < 6; i++) at[i] = coordinate(grain, reach);
        if (again && number < lain.size()) at = lain.get(number);
        else lain.add(at);
        for (int i = 0; i < 3; i++) {
            text.append(at[2 * i]).append(',').append(at[2 * i + 1]).append(',');
            text.append(level ? z : below(chance(3) ? 1000 : 12)).append(',');
        }
        return text.append(below(256)).append(',').append(chance(3) ? 1 + below(8) : 8).toString();
    }

    private int coordinate(int grain, int reach) {
        int v = below(64 + 2 * reach) - reach;
        return Math.max(-99, Math.min(160, Math.floorDiv(v, grain) * grain));
    }

    private String scriptText() {
        List<String> steps = new ArrayList<>();
        int n = 1 + below(chance(3) ? 12 : 5);
        for (int i = 0; i < n; i++) {
            switch (below(11)) {
                case 0: case 1: case 2: case 3: steps.add("draw " + below(chance(4) ? 10 : 4)); break;
                case 4: steps.add("flush " + below(chance(4) ? 16 : 2)); break;
                case 5: steps.add("all"); break;
                case 6: steps.add(chance(2) ? "clear" : "all"); break;
                case 7: steps.add("cull " + below(3)); break;
                case 8: steps.add((chance(2) ? "test " : "late ") + below(2)); break;
                case 9: steps.add("room " + (1 + below(10))); break;
                default: steps.add("move " + below(5) + "," + below(3) + "," + (below(41) - 20) + "," + (below(41) - 20)); break;
            }
        }
        return spaced(String.join(";", steps));
    }

    private String spaced(String text) {
        if (!chance(5)) return text;
        StringBuilder out = new StringBuilder();
        for (char c : text.toCharArray()) {
            if (c == ' ' && chance(2)) continue;
            boolean cut = c == ',' || c == ';';
            if (cut && chance(6)) out.append("  ");
            out.append(c);
            if (cut && chance(6)) out.append(' ');
        }
        return out.toString();
    }

    private String broken(String text) {
        StringBuilder out = new StringBuilder(text);
        String signs = ";,- 0123456789azAZ" + (char) 233 + (char) 1 + (char) 127 + "/:`{";
        String[] lumps = {"all;all;all;all;all;all;all;all;all;all;all", "many 3", "flat 1,2,3,4,5,6,7,8,9,10,8;flat 1,2,3,4,5,6,7,8,9,10,8;flat 1,2,3,4,5,6,7,8,9,10,8", "007", "-0", "99999999999999999999", ";", "size 3,3", "draw", "-"};
        for (int i = 1 + below(3); i > 0 && out.length() > 0; i--) {
            int at = below(out.length());
            switch (below(5)) {
                case 0: out.deleteCharAt(at); break;
                case 1: out.setCharAt(at, signs.charAt(below(signs.length()))); break;
                case 2: out.insert(at, signs.charAt(below(signs.length()))); break;
                case 3: out.setLength(at); break;
                default: out.insert(chance(2) ? at : chance(2) ? 0 : out.length(), (chance(2) ? ";" : "") + lumps[below(lumps.length)] + (chance(2) ? ";" : "")); break;
            }
        }
        return out.toString();
    }

    private void tellText(String text, int sort) throws Exception {
        call("end", chance(30) ? some(3, 500) : 0);
        if (text.length() > 480 && !chance(3)) text = text.substring(0, 480);
        int at = 0;
        while (at < text.length() && !wrong) {
            int[] v = new int[5];
            for (int i = 0; i < 20; i++) {
                int sign = at < text.length() && !chance(60) ? text.charAt(at++) : 0;
                v[i / 4] = v[i / 4] << 8 | sign;
            }
            call("feed", v[0], v[1], v[2], v[3], v[4]);
        }
        if (chance(2)) call("fault", sort);
        call("text", sort);
        if (chance(3)) call("count", below(6));
    }

    private void call(String name, Object... args) throws Exception {
        if (wrong || calls >= 512) return;
        calls++;
        Object got = answer(real, TileLights.class, name, args);
        Object want = answer(oracle, Oracle.class, name, args);
        told.add(name + java.util.Arrays.toString(args) + " -> " + got);
        if (!got.equals(want)) {
            wrong = true;
            told.add("the oracle says " + want);
        }
    }

    private static Object answer(Object on, Class<?> type, String name, Object[] args) throws Exception {
        for (Method m : methods(type)) {
            if (!m.getName().equals(name) || Modifier.isStatic(m.getModifiers()) || Modifier.isPrivate(m.getModifiers())) continue;
            try {
                m.setAccessible(true);
                return m.invoke(on, args);
            } catch (InvocationTargetException e) {
                return "throws " + e.getCause().getClass().getName();
            }
        }
        throw new IllegalStateException(name);
    }

    private static final java.util.Map<Class<?>, Method[]> METHODS = new java.util.HashMap<>();

    private static Method[] methods(Class<?> type) {
        return METHODS.computeIfAbsent(type, Class::getDeclaredMethods);
    }
}
