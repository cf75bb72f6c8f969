import java.util.ArrayList;
import java.util.List;
import java.util.NoSuchElementException;
import java.util.function.Consumer;
import java.util.function.ToLongFunction;

/** What the tests of the document's bounds share: each check belongs to a sentence of the document, which is told when it fails. */
final class Bounds {
    static final int NONE = -1;
    static final int HIDDEN = -1000000000;
    static final int MIN = Integer.MIN_VALUE;
    static final int MAX = Integer.MAX_VALUE;
    /** Stands for an answer that is a NoSuchElementException. */
    static final long THROWS = Long.MIN_VALUE + 1;
    /** Stands for an answer that is any other exception. */
    static final long BREAKS = Long.MIN_VALUE + 2;
    /** An object is used for at most 512 calls: a pair of objects is made anew for so many looks. */
    private static final int LOOKS_A_PAIR = 400;
    private static int wrong = 0;
    private static int checks = 0;
    private static String sentence = "";

    private Bounds() {
    }

    /** From here on checks belong to this sentence. */
    static void says(String words) {
        sentence = words;
    }

    static void due(String call, long got, long want) {
        checks++;
        if (got == want && got != BREAKS) return;
        wrong++;
        if (wrong <= 60) System.out.println("\"" + sentence + "\": " + call + " answered " + got + ", due is " + want);
    }

    static void due(String call, boolean got, boolean want) {
        due(call, got ? 1 : 0, want ? 1 : 0);
    }

    static void finish() {
        System.out.println(checks + " checks, " + wrong + " wrong");
        if (wrong != 0) System.exit(1);
    }

    static TileLights feed(TileLights x, String text) {
        x.end(0);
        for (int at = 0; at < text.length(); at += 20) {
            int[] v = new int[5];
            for (int i = 0; i < 20; i++) v[i / 4] = v[i / 4] << 8 | (at + i < text.length() ? text.charAt(at + i) : 0);
            x.feed(v[0], v[1], v[2], v[3], v[4]);
        }
        return x;
    }

    static int tell(TileLights x, String text, int sort) {
        return feed(x, text).text(sort);
    }

    static TileLights scene(String text) {
        TileLights x = new TileLights();
        int fault = feed(x, text).fault(0);
        if (text.length() > 480 || fault != NONE || x.text(0) < 1) {
            wrong++;
            System.out.println("no SCENE, FAULT " + fault + ": " + text);
        }
        return x;
    }

    static void fault(String text, int sort, int want) {
        TileLights x = feed(new TileLights(), text);
        due("fault(" + sort + ") of '" + text + "'", x.fault(sort), want);
        due("the TAPE behind fault", x.count(2), text.length());
        int told = x.text(sort);
        due("text(" + sort + ") of '" + text + "' is " + (want == NONE ? "taken" : "NONE"), told != NONE, want == NONE);
        due("the TAPE behind text(" + sort + ")", x.count(2), want == NONE ? 0 : text.length());
    }

    /** A TRIANGLE with the least AREA there is, that COVERS the point x, y alone. */
    static String point(int x, int y, int z, int color, int alpha) {
        return "flat " + x + "," + y + "," + z + "," + (x + 1) + "," + y + "," + z + "," + x + "," + (y + 1) + "," + z + "," + color + "," + alpha;
    }

    /** A TRIANGLE that COVERS all of a frame of at most 4 times 4 PIXELS, with one z. */
    static String cover(String pattern, int z, int color, int alpha) {
        return pattern + "-9,-9," + z + ",99,-9," + z + ",-9,99," + z + "," + color + "," + alpha;
    }

    static long answer(ToLongFunction<TileLights> call, TileLights x) {
        try {
            return call.applyAsLong(x);
        } catch (NoSuchElementException e) {
            return e.getClass() == NoSuchElementException.class ? THROWS : BREAKS;
        } catch (RuntimeException e) {
            return BREAKS;
        }
    }

    /** A call that is refused: what it answers, which STATUS counts it (NONE: no one), and that nothing else has changed. */
    static void refused(String call, Consumer<TileLights> setup, ToLongFunction<TileLights> made, long want, int status) {
        TileLights x = new TileLights();
        setup.accept(x);
        int[] before = new int[4];
        for (int i = 0; i < 4; i++) before[i] = x.status(i);
        due(call, answer(made, x), want);
        for (int i = 0; i < 4; i++) due("status(" + i + ") behind " + call, x.status(i), before[i] + (i == status ? 1 : 0));
        same(call, setup, y -> answer(made, y));
    }

    /** Behind the calls all is as it would be without them, but STATUS. */
    static void same(String call, Consumer<TileLights> setup, Consumer<TileLights> made) {
        alike("behind " + call, setup.andThen(made), setup);
    }

    /** Two ways to make an object: all is alike then, but STATUS. */
    static void alike(String when, Consumer<TileLights> one, Consumer<TileLights> other) {
        List<Look> looks = looks(made(other));
        TileLights first = null;
        TileLights second = null;
        for (int i = 0; i < looks.size(); i++) {
            if (i % LOOKS_A_PAIR == 0) {
                first = made(one);
                second = made(other);
            }
            Look look = looks.get(i);
            due(look.name + " " + when, answer(look.ask, first), answer(look.ask, second));
        }
        for (Look look : lastLooks()) due(look.name + " " + when, answer(look.ask, made(one)), answer(look.ask, made(other)));
    }

    private static TileLights made(Consumer<TileLights> by) {
        TileLights x = new TileLights();
        by.accept(x);
        return x;
    }

    static final class Look {
        final String name;
        final ToLongFunction<TileLights> ask;

        Look(String itsName, ToLongFunction<TileLights> itsAsk) {
            name = itsName;
            ask = itsAsk;
        }
    }

    /** All that can be asked of an object like this one and changes nothing, one beyond each bound too; STATUS is left out. */
    static List<Look> looks(TileLights like) {
        List<Look> looks = new ArrayList<>();
        for (int i = -1; i <= 10; i++) {
            int what = i;
            looks.add(new Look("rule(" + i + ")", x -> x.rule(what)));
            looks.add(new Look("most(" + i + ")", x -> x.most(what)));
            looks.add(new Look("count(" + i + ")", x -> x.count(what)));
            looks.add(new Look("fault(" + i + ")", x -> x.fault(what)));
            looks.add(new Look("orders(" + i + ")", x -> x.orders(what)));
            looks.add(new Look("shaded(" + i + ")", x -> x.shaded(what)));
        }
        for (int t = 0; t <= like.count(0); t++) addTriangle(looks, like, t);
        for (int y = 0; y <= Math.max(0, like.rule(1)); y++) {
            for (int x = 0; x <= Math.max(0, like.rule(0)); x++) addPixel(looks, like, x, y);
        }
        for (int tile = 0; tile <= like.count(3); tile++) {
            int itsTile = tile;
            for (int i = 0; i <= 4; i++) {
                int what = i;
                looks.add(new Look("tile(" + tile + ", " + i + ")", x -> x.tile(itsTile, what)));
                looks.add(new Look("bin(" + tile + ", " + i + ")", x -> x.bin(itsTile, what)));
            }
        }
        for (int i = 0; i <= like.count(4); i++) {
            for (int what = 0; what <= 2; what++) {
                int at = i;
                int which = what;
                looks.add(new Look("log(" + i + ", " + what + ")", x -> x.log(at, which)));
            }
        }
        for (int script = 0; script <= like.count(1); script++) addScript(looks, script);
        return looks;
    }

    private static void addTriangle(List<Look> looks, TileLights like, int t) {
        for (int i = 0; i <= 12; i++) {
            int what = i;
            looks.add(new Look("triangle(" + t + ", " + i + ")", x -> x.triangle(t, what)));
        }
        for (int i = 0; i < 9; i++) {
            int which = i;
            looks.add(new Look("corner(" + t + ", " + i / 3 + ", " + i % 3 + ")", x -> x.corner(t, which / 3, which % 3)));
            looks.add(new Look("edge(" + t + ", " + i % 3 + ", " + i + ", 7)", x -> x.edge(t, which % 3, which, 7)));
            looks.add(new Look("shifts(" + t + ", " + (1 + i / 3) + ", " + i % 3 + ")", x -> x.shifts(t, 1 + which / 3, which % 3)));
        }
        looks.add(new Look("left(" + t + ")", x -> x.left(t)));
        for (int other = 0; other <= like.count(0); other++) {
            int o = other;
            for (int i = 0; i <= 2; i++) {
                int what = i;
                looks.add(new Look("shared(" + t + ", " + other + ", " + i + ")", x -> x.shared(t, o, what)));
                looks.add(new Look("border(" + t + ", " + other + ", " + i + ")", x -> x.border(t, o, what)));
            }
        }
    }

    private static void addPixel(List<Look> looks, TileLights like, int px, int py) {
        String at = px + ", " + py;
        looks.add(new Look("pixel(" + at + ")", x -> x.pixel(px, py)));
        looks.add(new Look("shown(" + at + ")", x -> x.shown(px, py)));
        looks.add(new Look("whole(" + at + ")", x -> x.whole(px, py)));
        for (int k = 0; k <= Math.max(0, like.rule(3)); k++) {
            int sample = k;
            for (int i = 0; i <= 2; i++) {
                int what = i;
                looks.add(new Look("sample(" + at + ", " + k + ", " + i + ")", x -> x.sample(px, py, sample, what)));
                looks.add(new Look("layer(" + at + ", " + k + ", " + i + ")", x -> x.layer(px, py, sample, what)));
            }
            for (int t = 0; t <= like.count(0); t++) {
                int triangle = t;
                looks.add(new Look("depth(" + t + ", " + at + ", " + k + ")", x -> x.depth(triangle, px, py, sample)));
            }
        }
        for (int t = 0; t <= like.count(0); t++) {
            int triangle = t;
            looks.add(new Look("mask(" + t + ", " + at + ")", x -> x.mask(triangle, px, py)));
            looks.add(new Look("shade(" + t + ", " + at + ")", x -> x.shade(triangle, px, py)));
        }
    }

    private static void addScript(List<Look> looks, int script) {
        for (int what = 0; what <= 1; what++) {
            int which = what;
            looks.add(new Look("run(" + script + ", " + what + ")", x -> x.run(script, which)));
        }
        for (int i = 0; i <= 12; i++) {
            for (int what = 0; what <= 4; what++) {
                int at = i;
                int which = what;
                looks.add(new Look("step(" + script + ", " + i + ", " + what + ")", x -> x.step(script, at, which)));
            }
        }
    }

    /** What changes the object, each asked of an object of its own: what can be UNDONE, the IMAGE, the TAPE, what ACTS meet. */
    private static List<Look> lastLooks() {
        List<Look> looks = new ArrayList<>();
        looks.add(new Look("undo() up to the end", Bounds::undoAll));
        looks.add(new Look("back()", x -> x.back() * 1000003L + digest(x)));
        looks.add(new Look("image() and back()", x -> x.image() * 31L + x.back() * 1000003L + digest(x)));
        looks.add(new Look("text(0)", x -> x.text(0) * 1000003L + digest(x)));
        looks.add(new Look("text(1)", x -> x.text(1) * 1000003L + digest(x)));
        looks.add(new Look("perform(0)", x -> x.perform(0) * 1000003L + digest(x)));
        looks.add(new Look("years(20, 5)", x -> x.years(20, 5L) * 1000003L + digest(x)));
        looks.add(new Look("all()", x -> x.all() * 1000003L + digest(x)));
        looks.add(new Look("clear()", x -> x.clear() * 1000003L + digest(x)));
        looks.add(new Look("end(1) and feed", x -> (x.end(1) ? 1 : 0) + x.feed(0x41, 0, 0, 0, 0) * 31L + x.fault(1) * 1009L));
        return looks;
    }

    private static long undoAll(TileLights x) {
        long sum = 0;
        for (int i = 0; i < 45; i++) {
            int held = x.undo();
            if (held == NONE) break;
            sum = sum * 31 + held;
            for (int what = 0; what <= 3; what++) sum = sum * 31 + x.most(what);
            sum = sum * 31 + x.count(4) * 7L + x.rule(5) + x.rule(6) * 3L + x.rule(7) * 5L + x.rule(8) * 11L;
        }
        return sum * 1000003L + digest(x);
    }

    /** One number for what SAMPLES, BINS, rules, CORNERS and counts are, in some 150 calls. */
    static long digest(TileLights x) {
        long sum = 0;
        for (int what = 0; what <= 9; what++) sum = sum * 31 + x.rule(what);
        for (int what = 0; what <= 9; what++) sum = sum * 31 + x.most(what);
        for (int what = 0; what <= 5; what++) sum = sum * 31 + x.count(what);
        for (int i = 0; i < 18; i++) sum = sum * 31 + x.corner(i / 6, i / 2 % 3, i % 2);
        for (int i = 0; i < 9; i++) sum = sum * 31 + x.pixel(i % 3, i / 3);
        for (int i = 0; i < 18; i++) sum = sum * 31 + x.sample(i % 3, i / 3 % 3, i / 9, 0);
        for (int i = 0; i < 12; i++) sum = sum * 31 + x.bin(i / 3, i % 3);
        for (int t = 0; t < 4; t++) sum = sum * 31 + x.shaded(t);
        for (int i = 0; i < 30; i++) sum = sum * 31 + x.log(i / 3, i % 3);
        return sum;
    }
}
