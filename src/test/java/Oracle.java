import java.util.ArrayList;
import java.util.LinkedHashSet;
import java.util.List;
import java.util.NoSuchElementException;
import java.util.Set;

/** The document again, as slow and as near to its words as can be: everything is reckoned anew at each call. */
final class Oracle {
    static final int NONE = -1;
    static final int HIDDEN = -1000000000;

    /** A part of a TEXT: its sort (w word, n number, the sign itself, ? for what can't be) and where it begins. */
    record Part(char sort, String text, int at) { }

    record Point(int x, int y) { }

    record Edge(Point a, Point b) {
        long sum(Point p) {
            return (long) (b.x - a.x) * (p.y - a.y) - (long) (b.y - a.y) * (p.x - a.x);
        }

        boolean high() {
            return a.y == b.y && b.x > a.x || b.y < a.y;
        }
    }

    static final class Triangle {
        int pattern;
        int color;
        int alpha;
        final int[] x = new int[3];
        final int[] y = new int[3];
        final int[] z = new int[3];

        Triangle copy() {
            return shifted(0, 0);
        }

        Triangle shifted(int across, int down) {
            Triangle t = new Triangle();
            t.pattern = pattern;
            t.color = color;
            t.alpha = alpha;
            for (int i = 0; i < 3; i++) {
                t.x[i] = x[i] + across;
                t.y[i] = y[i] + down;
                t.z[i] = z[i];
            }
            return t;
        }

        Point told(int i) {
            return new Point(x[i], y[i]);
        }

        long area() {
            return new Edge(told(0), told(1)).sum(told(2));
        }

        int turned(int i) {
            return area() < 0 && i > 0 ? 3 - i : i;
        }

        Edge edge(int e) {
            return new Edge(told(turned(e)), told(turned((e + 1) % 3)));
        }

        int depthAt(Point p) {
            long sum = z[0] * edge(1).sum(p) + z[turned(1)] * edge(2).sum(p) + z[turned(2)] * edge(0).sum(p);
            long size = Math.abs(area());
            return (int) (sum % size < 0 ? sum / size - 1 : sum / size);
        }

        int minZ() {
            return Math.min(z[0], Math.min(z[1], z[2]));
        }

        int maxZ() {
            return Math.max(z[0], Math.max(z[1], z[2]));
        }
    }

    static final class State {
        int cull;
        int test;
        int late;
        int room;
        int skipped;
        int tested;
        int flushed;
        List<Triangle> triangles = new ArrayList<>();
        List<List<Integer>> bins = new ArrayList<>();
        List<Set<Integer>> shaded = new ArrayList<>();
        List<int[]> log = new ArrayList<>();
        int[][][] depth;
        int[][][] color;
        int[][][] pending;

        State copy() {
            State s = new State();
            s.cull = cull;
            s.test = test;
            s.late = late;
            s.room = room;
            s.skipped = skipped;
            s.tested = tested;
            s.flushed = flushed;
            for (Triangle t : triangles) s.triangles.add(t.copy());
            for (List<Integer> b : bins) s.bins.add(new ArrayList<>(b));
            for (Set<Integer> p : shaded) s.shaded.add(new LinkedHashSet<>(p));
            for (int[] row : log) s.log.add(row.clone());
            s.depth = deep(depth);
            s.color = deep(color);
            s.pending = deep(pending);
            return s;
        }

        private static int[][][] deep(int[][][] from) {
            int[][][] to = new int[from.length][][];
            for (int i = 0; i < from.length; i++) {
                to[i] = new int[from[i].length][];
                for (int j = 0; j < from[i].length; j++) to[i][j] = from[i][j].clone();
            }
            return to;
        }

        int pairs() {
            int n = 0;
            for (Set<Integer> p : shaded) n += p.size();
            return n;
        }
    }

    static final class SceneText {
        int wide = 8;
        int high = 8;
        int tile = 4;
        int many = 1;
        int back = 0;
        int cull = 0;
        int test = 0;
        int late = 1;
        int room = 10;
        List<Triangle> triangles = new ArrayList<>();
    }

    private String tape = "";
    private SceneText scene;
    private State now;
    private State image;
    private List<State> past = new ArrayList<>();
    private final List<List<int[]>> scripts = new ArrayList<>();
    private final int[] status = new int[4];
    private SceneText readScene;
    private List<int[]> readScript;

    int feed(int a, int b, int c, int d, int e) {
        StringBuilder more = new StringBuilder(tape);
        for (int v : new int[] {a, b, c, d, e}) {
            for (int shift : new int[] {24, 16, 8, 0}) {
                int sign = v >> shift & 0xff;
                if (sign != 0) more.append((char) sign);
            }
        }
        if (more.length() > 480) return NONE;
        tape = more.toString();
        return tape.length();
    }

    boolean end(int n) {
        if (n < 0 || n > tape.length()) return false;
        tape = tape.substring(0, n);
        return true;
    }

    private List<Part> parts() {
        List<Part> parts = new ArrayList<>();
        int i = 0;
        while (i < tape.length()) {
            String rest = tape.substring(i);
            char c = rest.charAt(0);
            String text = String.valueOf(c);
            char sort = '?';
            if (c == ' ') { i++; continue; }
            if (c == ';' || c == ',') sort = c;
            if (c >= 'a' && c <= 'z') { sort = 'w'; text = rest.replaceFirst("(?s)[^a-z].*", ""); }
            if (rest.matches("(?s)-?[0-9].*")) { sort = 'n'; text = rest.replaceFirst("(?s)^(-?[0-9]+).*", "$1"); }
            parts.add(new Part(sort, text, i));
            i += text.length();
        }
        return parts;
    }

    private static int worth(String digits) {
        java.math.BigInteger v = new java.math.BigInteger(digits);
        return v.bitLength() > 20 ? v.signum() * 1000000 : v.intValue();
    }

    private static int[][] sceneBounds(String word) {
        switch (word) {
            case "size": return new int[][] {{1, 8}, {1, 8}};
            case "tile": return new int[][] {{2, 4}};
            case "many": return new int[][] {{1, 4}};
            case "back": return new int[][] {{0, 255}};
            case "cull": return new int[][] {{0, 2}};
            case "test": case "late": return new int[][] {{0, 1}};
            case "room": return new int[][] {{1, 10}};
            case "flat": case "check": case "rows": case "deep":
                int[] xy = {-99, 160};
                int[] z = {0, 999};
                return new int[][] {xy, xy, z, xy, xy, z, xy, xy, z, {0, 255}, {1, 8}};
            default: return null;
        }
    }

    private static int[][] stepBounds(String word) {
        switch (word) {
            case "draw": return new int[][] {{0, 9}};
            case "flush": return new int[][] {{0, 15}};
            case "all": case "clear": return new int[][] {};
            case "cull": return new int[][] {{0, 2}};
            case "test": case "late": return new int[][] {{0, 1}};
            case "room": return new int[][] {{1, 10}};
            case "move": return new int[][] {{0, 9}, {0, 2}, {-20, 20}, {-20, 20}};
            default: return null;
        }
    }

    int fault(int sort) {
        if (sort < 0 || sort > 1) return -2;
        List<Part> parts = parts();
        Part last = new Part('.', "", tape.length());
        parts.add(last);
        readScene = new SceneText();
        readScript = new ArrayList<>();
        Set<String> said = new LinkedHashSet<>();
        int i = 0;
        while (true) {
            Part word = parts.get(i++);
            if (word.sort != 'w') return word.at;
            int[][] bounds = sort == 0 ? sceneBounds(word.text) : stepBounds(word.text);
            if (bounds == null) return word.at;
            if (sort == 0 && bounds.length == 11 && readScene.triangles.size() == 10) return word.at;
            if (sort == 0 && bounds.length < 11 && !said.add(word.text)) return word.at;
            int[] v = new int[bounds.length];
            for (int k = 0; k < v.length; k++) {
                if (k > 0 && parts.get(i++).sort != ',') return parts.get(i - 1).at;
                Part number = parts.get(i++);
                if (number.sort != 'n') return number.at;
                v[k] = worth(number.text);
                if (v[k] < bounds[k][0] || v[k] > bounds[k][1]) return number.at;
                if (sort == 0 && word.text.equals("many") && v[k] == 3) return number.at;
            }
            if (sort == 0) takeClause(word.text, v); else takeStep(word.text, v);
            Part behind = parts.get(i++);
            if (behind.sort == '.') break;
            if (behind.sort != ';') return behind.at;
            if (sort == 1 && readScript.size() == 12) return behind.at;
        }
        return sort == 0 && readScene.triangles.isEmpty() ? tape.length() : NONE;
    }

    private void takeClause(String word, int[] v) {
        switch (word) {
            case "size": readScene.wide = v[0]; readScene.high = v[1]; return;
            case "tile": readScene.tile = v[0]; return;
            case "many": readScene.many = v[0]; return;
            case "back": readScene.back = v[0]; return;
            case "cull": readScene.cull = v[0]; return;
            case "test": readScene.test = v[0]; return;
            case "late": readScene.late = v[0]; return;
            case "room": readScene.room = v[0]; return;
            default:
        }
        Triangle t = new Triangle();
        t.pattern = List.of("flat", "check", "rows", "deep").indexOf(word);
        for (int i = 0; i < 3; i++) {
            t.x[i] = v[3 * i];
            t.y[i] = v[3 * i + 1];
            t.z[i] = v[3 * i + 2];
        }
        t.color = v[9];
        t.alpha = v[10];
        readScene.triangles.add(t);
    }

    private void takeStep(String word, int[] v) {
        int[] step = new int[v.length + 1];
        step[0] = List.of("draw", "flush", "all", "clear", "cull", "test", "late", "room", "move").indexOf(word);
        System.arraycopy(v, 0, step, 1, v.length);
        readScript.add(step);
    }

    int text(int sort) {
        if (sort < 0 || sort > 1 || fault(sort) != NONE) return NONE;
        if (sort == 1) {
            if (scripts.size() == 4) return NONE;
            tape = "";
            scripts.add(readScript);
            return scripts.size() - 1;
        }
        tape = "";
        scene = readScene;
        now = new State();
        now.cull = scene.cull;
        now.test = scene.test;
        now.late = scene.late;
        now.room = scene.room;
        for (Triangle t : scene.triangles) now.triangles.add(t.copy());
        wipe(now);
        past = new ArrayList<>();
        image = null;
        return scene.triangles.size();
    }

    private void wipe(State s) {
        s.depth = new int[scene.high][scene.wide][scene.many];
        s.color = new int[scene.high][scene.wide][scene.many];
        s.pending = new int[scene.high][scene.wide][scene.many];
        for (int y = 0; y < scene.high; y++) {
            for (int x = 0; x < scene.wide; x++) {
                for (int k = 0; k < scene.many; k++) {
                    s.depth[y][x][k] = 1000;
                    s.color[y][x][k] = scene.back;
                    s.pending[y][x][k] = NONE;
                }
            }
        }
        s.bins = new ArrayList<>();
        for (int i = 0; i < tiles(); i++) s.bins.add(new ArrayList<>());
        s.shaded = new ArrayList<>();
        for (int i = 0; i < scene.triangles.size(); i++) s.shaded.add(new LinkedHashSet<>());
        s.skipped = 0;
        s.tested = 0;
        s.flushed = 0;
    }

    private int columns() {
        return (int) Math.ceil(scene.wide / (double) scene.tile);
    }

    private int tiles() {
        return scene == null ? 0 : columns() * (int) Math.ceil(scene.high / (double) scene.tile);
    }

    private List<Point> pixels(int tile) {
        List<Point> list = new ArrayList<>();
        for (int y = 0; y < scene.high; y++) {
            for (int x = 0; x < scene.wide; x++) {
                if (y / scene.tile * columns() + x / scene.tile == tile) list.add(new Point(x, y));
            }
        }
        return list;
    }

    private List<int[]> samples() {
        List<int[]> list = new ArrayList<>();
        for (int y = 0; y < scene.high; y++) {
            for (int x = 0; x < scene.wide; x++) {
                for (int k = 0; k < scene.many; k++) list.add(new int[] {x, y, k});
            }
        }
        return list;
    }

    private Point point(int x, int y, int k) {
        int[][] offsets;
        switch (scene.many) {
            case 1: offsets = new int[][] {{4, 4}}; break;
            case 2: offsets = new int[][] {{2, 2}, {6, 6}}; break;
            default: offsets = new int[][] {{3, 1}, {7, 3}, {1, 5}, {5, 7}};
        }
        return new Point(x * 8 + offsets[k][0], y * 8 + offsets[k][1]);
    }

    private static boolean culled(State s, Triangle t) {
        long area = t.area();
        return area == 0 || s.cull == 1 && area < 0 || s.cull == 2 && area > 0;
    }

    private static boolean covers(State s, Triangle t, Point p) {
        if (culled(s, t)) return false;
        for (int e = 0; e < 3; e++) {
            long sum = t.edge(e).sum(p);
            if (sum < 0 || sum == 0 && !t.edge(e).high()) return false;
        }
        return true;
    }

    private static int shadeOf(Triangle t, int x, int y) {
        int v = t.color;
        switch (t.pattern) {
            case 1: v = (x + y) % 2 == 0 ? t.color : 255 - t.color; break;
            case 2: v = y % 2 == 0 ? t.color : t.color / 2; break;
            case 3: v = t.color - (t.depthAt(new Point(8 * x + 4, 8 * y + 4)) >> 2); break;
            default:
        }
        return v < 0 ? 0 : v > 255 ? 255 : v;
    }

    private boolean touches(State s, Triangle t, int tile) {
        if (culled(s, t)) return false;
        List<Point> list = pixels(tile);
        int left = list.get(0).x * 8;
        int top = list.get(0).y * 8;
        int right = list.get(list.size() - 1).x * 8 + 8;
        int bottom = list.get(list.size() - 1).y * 8 + 8;
        boolean allLeft = true;
        boolean allRight = true;
        boolean allAbove = true;
        boolean allBelow = true;
        for (int i = 0; i < 3; i++) {
            allLeft &= t.x[i] < left;
            allRight &= t.x[i] > right;
            allAbove &= t.y[i] < top;
            allBelow &= t.y[i] > bottom;
        }
        if (allLeft || allRight || allAbove || allBelow) return false;
        for (int e = 0; e < 3; e++) {
            boolean out = true;
            for (Point p : List.of(new Point(left, top), new Point(right, top), new Point(left, bottom), new Point(right, bottom))) {
                out &= t.edge(e).sum(p) < 0;
            }
            if (out) return false;
        }
        return true;
    }

    private List<Integer> touched(State s, int t) {
        List<Integer> list = new ArrayList<>();
        for (int i = 0; i < tiles(); i++) if (touches(s, s.triangles.get(t), i)) list.add(i);
        return list;
    }

    private int far(State s, int tile, boolean near) {
        int v = near ? Integer.MAX_VALUE : Integer.MIN_VALUE;
        for (Point p : pixels(tile)) for (int d : s.depth[p.y][p.x]) v = near ? Math.min(v, d) : Math.max(v, d);
        return v;
    }

    private static boolean passes(State s, int depth, int against) {
        return depth < against || s.test == 1 && depth == against;
    }

    private void shadeIn(State s, int t, int x, int y, int k) {
        s.color[y][x][k] = shadeOf(s.triangles.get(t), x, y);
        s.pending[y][x][k] = NONE;
        s.shaded.get(t).add(y * 8 + x);
    }

    private int flushOf(State s, int tile) {
        List<Integer> bin = s.bins.get(tile);
        int n = bin.size();
        for (int t : bin) {
            Triangle tri = s.triangles.get(t);
            if (!passes(s, tri.minZ(), far(s, tile, false))) {
                s.skipped++;
                continue;
            }
            for (Point p : pixels(tile)) {
                for (int k = 0; k < scene.many; k++) {
                    if (covers(s, tri, point(p.x, p.y, k))) layAt(s, t, p.x, p.y, k);
                }
            }
        }
        bin.clear();
        if (n > 0) s.flushed++;
        for (Point p : pixels(tile)) {
            for (int k = 0; k < scene.many; k++) {
                if (s.pending[p.y][p.x][k] != NONE) shadeIn(s, s.pending[p.y][p.x][k], p.x, p.y, k);
            }
        }
        return n;
    }

    private void layAt(State s, int t, int x, int y, int k) {
        Triangle tri = s.triangles.get(t);
        int depth = tri.depthAt(point(x, y, k));
        s.tested++;
        if (!passes(s, depth, s.depth[y][x][k])) return;
        if (tri.alpha == 8) {
            s.depth[y][x][k] = depth;
            if (s.late == 1) s.pending[y][x][k] = t;
            else shadeIn(s, t, x, y, k);
            return;
        }
        if (s.pending[y][x][k] != NONE) shadeIn(s, s.pending[y][x][k], x, y, k);
        s.color[y][x][k] = (shadeOf(tri, x, y) * tri.alpha + s.color[y][x][k] * (8 - tri.alpha)) / 8;
        s.shaded.get(t).add(y * 8 + x);
    }

    private int drawOf(State s, int t) {
        int n = 0;
        for (int tile : touched(s, t)) {
            if (s.bins.get(tile).size() >= s.room) flushOf(s, tile);
            s.bins.get(tile).add(t);
            n++;
        }
        return n;
    }

    private int flushAllOf(State s) {
        int n = 0;
        for (int i = 0; i < tiles(); i++) if (flushOf(s, i) > 0) n++;
        return n;
    }

    private static int inBins(State s, int t) {
        int n = 0;
        for (List<Integer> b : s.bins) for (int v : b) if (v == t) n++;
        return n;
    }

    private int resolve(State s, int x, int y) {
        int sum = 0;
        for (int c : s.color[y][x]) sum += c;
        return sum / scene.many;
    }

    /** Why a step can't be, or NONE. */
    private int why(State s, int kind, int... v) {
        if (s == null) return 0;
        switch (kind) {
            case 0:
                if (v[0] < 0 || v[0] >= s.triangles.size()) return 0;
                return touched(s, v[0]).isEmpty() ? 2 : NONE;
            case 1:
                if (v[0] < 0 || v[0] >= tiles()) return 0;
                return s.bins.get(v[0]).isEmpty() ? 2 : NONE;
            case 2: case 3: return NONE;
            case 4: return v[0] < 0 || v[0] > 2 ? 1 : v[0] == s.cull ? 2 : NONE;
            case 5: return v[0] < 0 || v[0] > 1 ? 1 : v[0] == s.test ? 2 : NONE;
            case 6: return v[0] < 0 || v[0] > 1 ? 1 : v[0] == s.late ? 2 : NONE;
            case 7: return v[0] < 1 || v[0] > 10 ? 1 : v[0] == s.room ? 2 : NONE;
            case 8:
                if (v[0] < 0 || v[0] >= s.triangles.size()) return 0;
                if (v[1] < 0 || v[1] > 2 || Math.abs((long) v[2]) > 20 || Math.abs((long) v[3]) > 20) return 1;
                int x = s.triangles.get(v[0]).x[v[1]] + v[2];
                int y = s.triangles.get(v[0]).y[v[1]] + v[3];
                if (x < -99 || x > 160 || y < -99 || y > 160) return 1;
                if (v[2] == 0 && v[3] == 0) return 2;
                return inBins(s, v[0]) > 0 ? 3 : NONE;
            default: return 1;
        }
    }

    private int done(State s, int kind, int... v) {
        int was;
        switch (kind) {
            case 0: return drawOf(s, v[0]);
            case 1: return flushOf(s, v[0]);
            case 2: return flushAllOf(s);
            case 3:
                int n = 0;
                for (List<Integer> b : s.bins) n += b.size();
                wipe(s);
                return n;
            case 4: was = s.cull; s.cull = v[0]; return was;
            case 5: was = s.test; s.test = v[0]; return was;
            case 6: was = s.late; s.late = v[0]; return was;
            case 7: was = s.room; s.room = v[0]; return was;
            default:
                s.triangles.get(v[0]).x[v[1]] += v[2];
                s.triangles.get(v[0]).y[v[1]] += v[3];
                return (int) s.triangles.get(v[0]).area();
        }
    }

    private int act(int refused, boolean counted, int kind, int... v) {
        int why = why(now, kind, v);
        if (why != NONE) {
            if (counted) status[why]++;
            return refused;
        }
        past.add(now.copy());
        if (past.size() > 40) past.remove(0);
        int answer = done(now, kind, v);
        int sort = kind < 4 ? kind : kind < 8 ? 4 : 5;
        int number = kind == 2 || kind == 3 ? 0 : sort == 4 ? kind - 4 : v[0];
        now.log.add(0, new int[] {sort, number, now.pairs()});
        if (now.log.size() > 60) now.log.remove(60);
        return answer;
    }

    int rule(int what) {
        if (scene == null || what < 0 || what > 9) return NONE;
        return new int[] {scene.wide, scene.high, scene.tile, scene.many, scene.back,
            now.cull, now.test, now.late, now.room, tiles()}[what];
    }

    private boolean is(int t) {
        return scene != null && t >= 0 && t < scene.triangles.size();
    }

    private boolean isPixel(int x, int y) {
        return scene != null && x >= 0 && y >= 0 && x < scene.wide && y < scene.high;
    }

    private boolean isSample(int x, int y, int k) {
        return isPixel(x, y) && k >= 0 && k < scene.many;
    }

    private static boolean covered(State s, List<int[]> list, Oracle o, int t) {
        for (int[] at : list) if (covers(s, s.triangles.get(t), o.point(at[0], at[1], at[2]))) return true;
        return false;
    }

    private int coveredCount(Triangle t) {
        int n = 0;
        for (int[] at : samples()) if (covers(now, t, point(at[0], at[1], at[2]))) n++;
        return n;
    }

    int triangle(int t, int what) {
        if (!is(t) || what < 0 || what > 11) throw new NoSuchElementException();
        Triangle tri = now.triangles.get(t);
        int bits = 0;
        switch (what) {
            case 0: return (int) tri.area();
            case 1: return tri.alpha;
            case 2: return tri.color;
            case 3: return tri.pattern;
            case 4: return culled(now, tri) ? 1 : 0;
            case 5: return tri.minZ();
            case 6: return tri.maxZ();
            case 7: for (int tile : touched(now, t)) bits |= 1 << tile; return bits;
            case 8:
                for (int tile : touched(now, t)) {
                    List<int[]> list = new ArrayList<>();
                    for (Point p : pixels(tile)) for (int k = 0; k < scene.many; k++) list.add(new int[] {p.x, p.y, k});
                    if (!covered(now, list, this, t)) bits |= 1 << tile;
                }
                return bits;
            case 9: return coveredCount(tri);
            case 10: return now.shaded.get(t).size();
            default: return inBins(now, t);
        }
    }

    int corner(int t, int c, int what) {
        if (!is(t) || c < 0 || c > 2 || what < 0 || what > 2) return HIDDEN;
        Triangle tri = now.triangles.get(t);
        return new int[][] {tri.x, tri.y, tri.z}[what][c];
    }

    int edge(int t, int e, int x, int y) {
        if (!is(t) || e < 0 || e > 2 || x < -99 || x > 160 || y < -99 || y > 160) return HIDDEN;
        return (int) now.triangles.get(t).edge(e).sum(new Point(x, y));
    }

    int mask(int t, int x, int y) {
        if (!is(t) || !isPixel(x, y)) return NONE;
        int bits = 0;
        for (int k = 0; k < scene.many; k++) if (covers(now, now.triangles.get(t), point(x, y, k))) bits |= 1 << k;
        return bits;
    }

    int depth(int t, int x, int y, int k) {
        if (!is(t) || !isSample(x, y, k) || !covers(now, now.triangles.get(t), point(x, y, k))) return NONE;
        return now.triangles.get(t).depthAt(point(x, y, k));
    }

    int shade(int t, int x, int y) {
        if (!is(t) || !isPixel(x, y) || now.triangles.get(t).area() == 0) return NONE;
        return shadeOf(now.triangles.get(t), x, y);
    }

    int sample(int x, int y, int k, int what) {
        if (!isSample(x, y, k) || what < 0 || what > 2) return HIDDEN;
        return new int[] {now.depth[y][x][k], now.color[y][x][k], now.pending[y][x][k]}[what];
    }

    int pixel(int x, int y) {
        return isPixel(x, y) ? resolve(now, x, y) : NONE;
    }

    int tile(int tile, int what) {
        if (tile < 0 || tile >= tiles() || what < 0 || what > 4) return NONE;
        return new int[] {now.bins.get(tile).size(), far(now, tile, false), far(now, tile, true), 0, pixels(tile).size()}[what];
    }

    int bin(int tile, int i) {
        if (tile < 0 || tile >= tiles() || i < 0 || i >= now.bins.get(tile).size()) return NONE;
        return now.bins.get(tile).get(i);
    }

    long shaded(int t) {
        long bits = 0;
        if (is(t)) for (int p : now.shaded.get(t)) bits |= 1L << p;
        return bits;
    }

    int draw(int t) { return act(NONE, true, 0, t); }

    int flush(int tile) { return act(NONE, true, 1, tile); }

    int all() { return act(NONE, true, 2); }

    int clear() { return act(NONE, true, 3); }

    int set(int what, int v) { return act(NONE, true, what < 0 || what > 3 ? 99 : 4 + what, v); }

    int move(int t, int c, int across, int down) { return act(HIDDEN, true, 8, t, c, across, down); }

    int years(int n, long seed) {
        if (scene == null || n < 1 || n > 40) return NONE;
        long[] x = {seed};
        for (int i = 0; i < n; i++) {
            int d = chance(x, 8);
            if (d <= 4) act(NONE, false, 0, chance(x, scene.triangles.size()));
            else if (d == 5) act(NONE, false, 1, chance(x, tiles()));
            else if (d == 6) act(NONE, false, 6, now.late == 0 ? 1 : 0);
            else {
                int t = chance(x, scene.triangles.size());
                int c = chance(x, 3);
                int across = chance(x, 9) - 4;
                int down = chance(x, 9) - 4;
                act(NONE, false, 8, t, c, across, down);
            }
        }
        return now.pairs();
    }

    private static int chance(long[] x, int j) {
        x[0] = x[0] * 6364136223846793005L + 1442695040888963407L;
        return (int) (x[0] >>> 33) % j;
    }

    int status(int what) { return what < 0 || what > 3 ? NONE : status[what]; }

    int undo() {
        if (past.isEmpty()) return NONE;
        now = past.remove(past.size() - 1);
        return past.size();
    }

    int log(int i, int what) {
        if (now == null || i < 0 || i >= now.log.size() || what < 0 || what > 2) return NONE;
        return now.log.get(i)[what];
    }

    int step(int script, int i, int what) {
        if (script < 0 || script >= scripts.size() || i < 0 || i >= scripts.get(script).size() || what < 0) return HIDDEN;
        int[] step = scripts.get(script).get(i);
        return what >= step.length ? HIDDEN : step[what];
    }

    private static int[] numbers(int[] step) {
        return java.util.Arrays.copyOfRange(step, 1, 5);
    }

    int run(int script, int what) {
        if (scene == null || script < 0 || script >= scripts.size() || what < 0 || what > 1) return HIDDEN;
        State s = now.copy();
        int n = 0;
        for (int[] step : scripts.get(script)) {
            if (why(s, step[0], numbers(step)) != NONE) return what == 0 ? n : s.pairs();
            done(s, step[0], numbers(step));
            n++;
        }
        return what == 0 ? NONE : s.pairs();
    }

    int perform(int script) {
        if (scene == null || script < 0 || script >= scripts.size()) return NONE;
        int n = 0;
        for (int[] step : scripts.get(script)) {
            if (why(now, step[0], numbers(step)) != NONE) return n;
            act(NONE, false, step[0], numbers(step));
            n++;
        }
        return n;
    }

    int layer(int x, int y, int k, int i) {
        if (!isSample(x, y, k) || i < 0) return NONE;
        List<Integer> list = new ArrayList<>();
        for (int t = 0; t < scene.triangles.size(); t++) {
            if (covers(now, now.triangles.get(t), point(x, y, k))) list.add(t);
        }
        list.sort(java.util.Comparator.comparingInt((Integer t) -> depth(t, x, y, k)).thenComparingInt(t -> t));
        return i < list.size() ? list.get(i) : NONE;
    }

    int shown(int x, int y) {
        if (!isPixel(x, y)) return NONE;
        State s = now.copy();
        flushAllOf(s);
        return resolve(s, x, y);
    }

    private State wholeOf(int late, int without) {
        State s = now.copy();
        wipe(s);
        s.late = late;
        for (int t = 0; t < s.triangles.size(); t++) if (t != without) drawOf(s, t);
        flushAllOf(s);
        return s;
    }

    int whole(int x, int y) {
        return isPixel(x, y) ? resolve(wholeOf(now.late, NONE), x, y) : NONE;
    }

    int shared(int one, int other, int what) {
        if (!is(one) || !is(other) || what < 0 || what > 1) return NONE;
        int n = 0;
        for (int[] at : samples()) {
            boolean a = covers(now, now.triangles.get(one), point(at[0], at[1], at[2]));
            boolean b = covers(now, now.triangles.get(other), point(at[0], at[1], at[2]));
            if (what == 0 ? a && b : a != b) n++;
        }
        return n;
    }

    int border(int one, int other, int what) {
        if (!is(one) || !is(other) || what < 0 || what > 2) return NONE;
        Triangle p = now.triangles.get(one);
        Triangle q = now.triangles.get(other);
        if (culled(now, p) || culled(now, q)) return 0;
        int n = 0;
        for (int[] at : samples()) {
            Point point = point(at[0], at[1], at[2]);
            boolean below = false;
            boolean zeroP = false;
            boolean zeroQ = false;
            for (int e = 0; e < 3; e++) {
                below |= p.edge(e).sum(point) < 0 || q.edge(e).sum(point) < 0;
                zeroP |= p.edge(e).sum(point) == 0;
                zeroQ |= q.edge(e).sum(point) == 0;
            }
            if (below || !zeroP || !zeroQ) continue;
            boolean a = covers(now, p, point);
            boolean b = covers(now, q, point);
            if (what == 0 || what == 1 && a != b || what == 2 && a && b) n++;
        }
        return n;
    }

    int left(int t) {
        if (!is(t)) return NONE;
        State with = wholeOf(now.late, NONE);
        State without = wholeOf(now.late, t);
        int n = 0;
        for (int y = 0; y < scene.high; y++) {
            for (int x = 0; x < scene.wide; x++) if (resolve(with, x, y) != resolve(without, x, y)) n++;
        }
        return n;
    }

    int orders(int what) {
        if (scene == null || what < 0 || what > 2) return NONE;
        List<Integer> chosen = new ArrayList<>();
        for (int t = 0; t < now.triangles.size(); t++) {
            if (chosen.size() < 4 && now.triangles.get(t).alpha == 8 && !culled(now, now.triangles.get(t))) chosen.add(t);
        }
        if (chosen.isEmpty()) return 0;
        List<List<Integer>> orders = new ArrayList<>();
        permute(chosen, new ArrayList<>(), orders);
        List<Integer> pairs = new ArrayList<>();
        for (List<Integer> order : orders) {
            State s = now.copy();
            wipe(s);
            s.late = 0;
            for (int t : order) drawOf(s, t);
            flushAllOf(s);
            pairs.add(s.pairs());
        }
        int least = java.util.Collections.min(pairs);
        return what == 0 ? least : what == 1 ? pairs.indexOf(least) : java.util.Collections.max(pairs);
    }

    private static void permute(List<Integer> of, List<Integer> so, List<List<Integer>> into) {
        if (so.size() == of.size()) into.add(new ArrayList<>(so));
        for (Integer t : of) {
            if (so.contains(t)) continue;
            so.add(t);
            permute(of, so, into);
            so.remove(t);
        }
    }

    int shifts(int t, int n, int what) {
        if (!is(t) || n < 1 || n > 3 || what < 0 || what > 2) return NONE;
        Triangle tri = now.triangles.get(t);
        List<Integer> list = new ArrayList<>();
        for (int down = -n; down <= n; down++) {
            for (int across = -n; across <= n; across++) list.add(coveredCount(tri.shifted(across, down)));
        }
        int max = java.util.Collections.max(list);
        return what == 0 ? max : what == 1 ? list.indexOf(max) : java.util.Collections.frequency(list, coveredCount(tri));
    }

    int most(int what) {
        if (scene == null) return HIDDEN;
        int bits = 0;
        switch (what) {
            case 0: return now.pairs();
            case 1: return now.skipped;
            case 2: return now.tested;
            case 3: return now.flushed;
            case 4: return 0;
            case 5:
                State s = wholeOf(now.late, NONE);
                for (int t = 0; t < s.triangles.size(); t++) if (s.shaded.get(t).isEmpty()) bits |= 1 << t;
                return bits;
            case 6: return wholeOf(0, NONE).pairs() - wholeOf(1, NONE).pairs();
            case 7:
                for (int t = 0; t < now.triangles.size(); t++) if (culled(now, now.triangles.get(t))) bits |= 1 << t;
                return bits;
            case 8:
                int best = 0;
                for (int i = 0; i < tiles(); i++) if (now.bins.get(i).size() > now.bins.get(best).size()) best = i;
                return best;
            case 9:
                for (List<Integer> b : now.bins) for (int t : b) bits |= 1 << t;
                return bits;
            default: return HIDDEN;
        }
    }

    int image() {
        if (scene == null) return NONE;
        image = now.copy();
        return now.pairs();
    }

    int back() {
        if (image == null) return NONE;
        now = image.copy();
        past = new ArrayList<>();
        return now.pairs();
    }

    int count(int what) {
        switch (what) {
            case 0: return scene == null ? 0 : scene.triangles.size();
            case 1: return scripts.size();
            case 2: return tape.length();
            case 3: return tiles();
            case 4: return now == null ? 0 : now.log.size();
            case 5: return past.size();
            default: return HIDDEN;
        }
    }
}
