import java.util.List;
import java.util.function.Consumer;
import java.util.function.ToLongFunction;

/**
 * "What is refused answers as told and changes nothing but STATUS": each promise's refusals, the first values out of bounds at both ends,
 * in a new object, in one with a SCENE at work, in one that is full. All that can be asked is compared with an object that was not called so.
 */
public final class RefusedTest {
    private static final int NONE = Bounds.NONE;
    private static final int HIDDEN = Bounds.HIDDEN;
    private static final long THROWS = Bounds.THROWS;
    private static final int MIN = Bounds.MIN;
    private static final int MAX = Bounds.MAX;
    // 0 OPAQUE, 1 blended, 2 with AREA 0, 3 beside all TILES, 4 TURNED, in the corner of the frame and of its bounds.
    private static final String SCENE = "size 3,3;tile 2;many 2;back 9;room 2;flat -9,-9,5,99,-9,50,-9,99,8,70,8;deep 2,2,4,20,3,9,1,22,3,200,5;"
        + "flat 0,0,0,4,4,0,8,8,0,7,8;rows 99,99,1,110,99,1,99,110,1,7,8;check -99,-99,2,-99,160,2,160,-99,2,30,8";

    public static void main(String[] args) {
        tapeAndTexts();
        looksRefused();
        looksWithoutScene();
        actsRefused();
        actsWithoutScene();
        yearsUndoImage();
        scripts();
        asking();
        anotherScene();
        undoneAndBack();
        fullOfActs();
        Bounds.finish();
    }

    private static void says(String words) {
        Bounds.says(words);
    }

    // ---- objects to be called ----

    private static void empty(TileLights x) {
        Bounds.tell(x, "all;draw 0", 1);
        Bounds.feed(x, "all;x");
    }

    private static void busy(TileLights x) {
        Bounds.tell(x, SCENE, 0);
        Bounds.tell(x, "draw 0;all;move 1,1,2,3;late 0", 1);
        Bounds.tell(x, "draw 1;flush 0;clear;draw 4", 1);
        x.draw(0);
        x.draw(1);
        x.image();
        x.draw(4);
        x.flush(1);
        x.move(3, 0, 1, 1);
        x.set(1, 1);
        x.draw(1);
        x.draw(99);
        x.set(0, 0);
        Bounds.feed(x, "all;tile 2");
    }

    private static void full(TileLights x) {
        busy(x);
        Bounds.tell(x, "all", 1);
        Bounds.tell(x, "clear", 1);
        Bounds.feed(x, " ".repeat(477) + "all");
    }

    private static final String[] SCRIPTS = {"draw 9;flush 15;draw 0;draw 0;all;room 1;move 9,2,-20,20;cull 2;clear;test 1;late 0;cull 1", "all", "draw 4;clear", "flush 0"};

    /** 16 TILES, 256 SAMPLES, ten TRIANGLES, four SCRIPTS, one of them of twelve STEPS. */
    private static void largest(TileLights x) {
        for (String script : SCRIPTS) Bounds.tell(x, script, 1);
        StringBuilder text = new StringBuilder("many4;tile2;room2");
        for (int t = 0; t < 10; t++) {
            int far = 70 - 5 * t;
            text.append(t % 2 == 0 ? ";deep" : ";flat").append("-1,").append(t).append(',').append(90 - t).append(',').append(far).append(",0,5,").append(t);
            text.append(',').append(far).append(",9,9").append(t).append(',').append(t % 4 == 3 ? 4 : 8);
        }
        Bounds.tell(x, text.toString(), 0);
        for (int t = 0; t < 10; t++) x.draw(t);
        x.set(2, 0);
        x.draw(9);
        x.image();
    }

    private static void largestBehindAnother(TileLights x) {
        Bounds.tell(x, SCENE, 0);
        x.draw(0);
        x.move(3, 0, 1, 1);
        x.image();
        largest(x);
    }

    private static void noImage(TileLights x) {
        Bounds.tell(x, SCENE, 0);
        x.draw(0);
        Bounds.feed(x, "all");
    }

    private static void culling(TileLights x) {
        busy(x);
        x.all();
        x.set(0, 2);
    }

    private static void turnedCulled(TileLights x) {
        busy(x);
        x.all();
        x.set(0, 1);
    }

    /** A call that is refused without a STATUS. */
    private static void refused(String call, Consumer<TileLights> setup, ToLongFunction<TileLights> made, long want) {
        Bounds.refused(call, setup, made, want, NONE);
    }

    private static long yes(boolean b) {
        return b ? 1 : 0;
    }

    // ---- promises 2 to 5 ----

    private static void tapeAndTexts() {
        says("feed: NONE: more than 480");
        refused("feed of 1", RefusedTest::full, x -> x.feed(0, 0, 0, 0, 0x61), NONE);
        refused("feed of 20", RefusedTest::full, x -> x.feed(-1, -1, -1, -1, -1), NONE);
        says("end: False: n");
        for (int n : new int[] {-1, 11, MIN, MAX}) refused("end(" + n + ")", RefusedTest::busy, x -> yes(x.end(n)), 0);
        for (int n : new int[] {-1, 6, 480}) refused("end(" + n + ")", RefusedTest::empty, x -> yes(x.end(n)), 0);
        for (int n : new int[] {-1, 481}) refused("end(" + n + ")", RefusedTest::full, x -> yes(x.end(n)), 0);
        says("fault: -2: no such sort");
        for (int sort : new int[] {-1, 2, MIN, MAX}) refused("fault(" + sort + ")", RefusedTest::busy, x -> x.fault(sort), -2);
        says("text: NONE: a FAULT, no such sort, there are four SCRIPTS");
        for (int sort : new int[] {-1, 0, 1, 2, MIN, MAX}) {
            refused("text(" + sort + ")", RefusedTest::busy, x -> x.text(sort), NONE);
            refused("text(" + sort + ")", RefusedTest::empty, x -> x.text(sort), NONE);
            refused("text(" + sort + ")", RefusedTest::full, x -> x.text(sort), NONE);
        }
    }

    // ---- what is told of the SCENE ----

    private static void looksRefused() {
        Consumer<TileLights> busy = RefusedTest::busy;
        says("rule: NONE: no such what");
        for (int what : new int[] {-1, 10, MIN, MAX}) refused("rule(" + what + ")", busy, x -> x.rule(what), NONE);
        says("triangle: NoSuchElementException: no such ones");
        for (int t : new int[] {-1, 5, 10, MIN, MAX}) refused("triangle(" + t + ", 0)", busy, x -> x.triangle(t, 0), THROWS);
        for (int what : new int[] {-1, 12, MIN, MAX}) refused("triangle(0, " + what + ")", busy, x -> x.triangle(0, what), THROWS);
        says("corner, edge: HIDDEN: no such ones, out of bounds");
        for (int bad : new int[] {-1, 3, MIN, MAX}) {
            int t = bad == 3 ? 5 : bad;
            refused("corner(" + t + ", 0, 0)", busy, x -> x.corner(t, 0, 0), HIDDEN);
            refused("corner(0, " + bad + ", 0)", busy, x -> x.corner(0, bad, 0), HIDDEN);
            refused("corner(0, 0, " + bad + ")", busy, x -> x.corner(0, 0, bad), HIDDEN);
            refused("edge(" + t + ", 0, 0, 0)", busy, x -> x.edge(t, 0, 0, 0), HIDDEN);
            refused("edge(0, " + bad + ", 0, 0)", busy, x -> x.edge(0, bad, 0, 0), HIDDEN);
            refused("mask(" + t + ", 0, 0)", busy, x -> x.mask(t, 0, 0), NONE);
            refused("mask(0, " + bad + ", 0)", busy, x -> x.mask(0, bad, 0), NONE);
            refused("mask(0, 0, " + bad + ")", busy, x -> x.mask(0, 0, bad), NONE);
            refused("depth(" + t + ", 0, 0, 0)", busy, x -> x.depth(t, 0, 0, 0), NONE);
            refused("depth(0, " + bad + ", 0, 0)", busy, x -> x.depth(0, bad, 0, 0), NONE);
            refused("depth(0, 0, " + bad + ", 0)", busy, x -> x.depth(0, 0, bad, 0), NONE);
            refused("shade(" + t + ", 0, 0)", busy, x -> x.shade(t, 0, 0), NONE);
            refused("shade(0, " + bad + ", 0)", busy, x -> x.shade(0, bad, 0), NONE);
            refused("shade(0, 0, " + bad + ")", busy, x -> x.shade(0, 0, bad), NONE);
            refused("sample(" + bad + ", 0, 0, 0)", busy, x -> x.sample(bad, 0, 0, 0), HIDDEN);
            refused("sample(0, " + bad + ", 0, 0)", busy, x -> x.sample(0, bad, 0, 0), HIDDEN);
            refused("sample(0, 0, 0, " + bad + ")", busy, x -> x.sample(0, 0, 0, bad), HIDDEN);
            refused("pixel(" + bad + ", 0)", busy, x -> x.pixel(bad, 0), NONE);
            refused("pixel(0, " + bad + ")", busy, x -> x.pixel(0, bad), NONE);
            refused("shown(" + bad + ", 0)", busy, x -> x.shown(bad, 0), NONE);
            refused("shown(0, " + bad + ")", busy, x -> x.shown(0, bad), NONE);
            refused("whole(" + bad + ", 0)", busy, x -> x.whole(bad, 0), NONE);
            refused("whole(0, " + bad + ")", busy, x -> x.whole(0, bad), NONE);
            refused("layer(" + bad + ", 0, 0, 0)", busy, x -> x.layer(bad, 0, 0, 0), NONE);
            refused("layer(0, " + bad + ", 0, 0)", busy, x -> x.layer(0, bad, 0, 0), NONE);
            refused("shaded(" + t + ")", busy, x -> x.shaded(t), 0);
            refused("left(" + t + ")", busy, x -> x.left(t), NONE);
            refused("border(0, 1, " + bad + ")", busy, x -> x.border(0, 1, bad), NONE);
            refused("border(" + t + ", 1, 0)", busy, x -> x.border(t, 1, 0), NONE);
            refused("border(0, " + t + ", 0)", busy, x -> x.border(0, t, 0), NONE);
            refused("shared(" + t + ", 1, 0)", busy, x -> x.shared(t, 1, 0), NONE);
            refused("shared(0, " + t + ", 0)", busy, x -> x.shared(0, t, 0), NONE);
            refused("orders(" + bad + ")", busy, x -> x.orders(bad), NONE);
            refused("shifts(0, 1, " + bad + ")", busy, x -> x.shifts(0, 1, bad), NONE);
            refused("shifts(" + t + ", 1, 0)", busy, x -> x.shifts(t, 1, 0), NONE);
            refused("log(0, " + bad + ")", busy, x -> x.log(0, bad), NONE);
        }
        looksBeyond(busy);
    }

    private static void looksBeyond(Consumer<TileLights> busy) {
        for (int bad : new int[] {-100, 161, MIN, MAX}) {
            refused("edge(0, 0, " + bad + ", 0)", busy, x -> x.edge(0, 0, bad, 0), HIDDEN);
            refused("edge(0, 0, 0, " + bad + ")", busy, x -> x.edge(0, 0, 0, bad), HIDDEN);
        }
        for (int bad : new int[] {-1, 2, MIN, MAX}) {
            refused("depth(0, 0, 0, " + bad + ")", busy, x -> x.depth(0, 0, 0, bad), NONE);
            refused("sample(0, 0, " + bad + ", 0)", busy, x -> x.sample(0, 0, bad, 0), HIDDEN);
            refused("layer(0, 0, " + bad + ", 0)", busy, x -> x.layer(0, 0, bad, 0), NONE);
            refused("shared(0, 1, " + bad + ")", busy, x -> x.shared(0, 1, bad), NONE);
        }
        for (int bad : new int[] {-1, 4, MIN, MAX}) {
            refused("tile(" + bad + ", 0)", busy, x -> x.tile(bad, 0), NONE);
            refused("bin(" + bad + ", 0)", busy, x -> x.bin(bad, 0), NONE);
            refused("status(" + bad + ")", busy, x -> x.status(bad), NONE);
            refused("shifts(0, " + (bad == -1 ? 0 : bad) + ", 0)", busy, x -> x.shifts(0, bad == -1 ? 0 : bad, 0), NONE);
        }
        for (int bad : new int[] {-1, 5, MIN, MAX}) refused("tile(0, " + bad + ")", busy, x -> x.tile(0, bad), NONE);
        for (int bad : new int[] {-1, 10, MIN, MAX}) {
            refused("bin(0, " + bad + ")", busy, x -> x.bin(0, bad), NONE);
            refused("most(" + bad + ")", busy, x -> x.most(bad), HIDDEN);
            refused("layer(0, 0, 0, " + bad + ")", busy, x -> x.layer(0, 0, 0, bad), NONE);
        }
        for (int bad : new int[] {-1, 60, MIN, MAX}) refused("log(" + bad + ", 0)", busy, x -> x.log(bad, 0), NONE);
        for (int bad : new int[] {-1, 6, MIN, MAX}) refused("count(" + bad + ")", busy, x -> x.count(bad), HIDDEN);
        says("shade: NONE: AREA is 0; depth: NONE: it COVERS it not");
        refused("shade(2, 0, 0)", busy, x -> x.shade(2, 0, 0), NONE);
        refused("depth(2, 0, 0, 0)", busy, x -> x.depth(2, 0, 0, 0), NONE);
        refused("depth(3, 0, 0, 0)", busy, x -> x.depth(3, 0, 0, 0), NONE);
        says("bin, layer, log: NONE: one behind the last");
        for (int tile = 0; tile < 4; tile++) {
            int itsTile = tile;
            refused("bin behind the last", busy, x -> x.bin(itsTile, x.tile(itsTile, 0)), NONE);
        }
        refused("log behind the last", busy, x -> x.log(x.count(4), 0), NONE);
        refused("layer behind the last", busy, x -> x.layer(0, 0, 0, 3), NONE);
    }

    private static void looksWithoutScene() {
        says("no SCENE: no such ones");
        Consumer<TileLights> empty = RefusedTest::empty;
        for (int what = 0; what <= 9; what++) {
            int w = what;
            refused("rule(" + what + ")", empty, x -> x.rule(w), NONE);
            refused("most(" + what + ")", empty, x -> x.most(w), HIDDEN);
        }
        for (int what = 0; what <= 11; what++) {
            int w = what;
            refused("triangle(0, " + what + ")", empty, x -> x.triangle(0, w), THROWS);
        }
        refused("corner(0, 0, 0)", empty, x -> x.corner(0, 0, 0), HIDDEN);
        refused("edge(0, 0, 0, 0)", empty, x -> x.edge(0, 0, 0, 0), HIDDEN);
        refused("mask(0, 0, 0)", empty, x -> x.mask(0, 0, 0), NONE);
        refused("depth(0, 0, 0, 0)", empty, x -> x.depth(0, 0, 0, 0), NONE);
        refused("shade(0, 0, 0)", empty, x -> x.shade(0, 0, 0), NONE);
        for (int what = 0; what <= 2; what++) {
            int w = what;
            refused("sample(0, 0, 0, " + what + ")", empty, x -> x.sample(0, 0, 0, w), HIDDEN);
            refused("orders(" + what + ")", empty, x -> x.orders(w), NONE);
            refused("shifts(0, 1, " + what + ")", empty, x -> x.shifts(0, 1, w), NONE);
            refused("log(0, " + what + ")", empty, x -> x.log(0, w), NONE);
            refused("shared(0, 0, " + what + ")", empty, x -> x.shared(0, 0, w), NONE);
            refused("border(0, 0, " + what + ")", empty, x -> x.border(0, 0, w), NONE);
        }
        for (int what = 0; what <= 4; what++) {
            int w = what;
            refused("tile(0, " + what + ")", empty, x -> x.tile(0, w), NONE);
        }
        refused("bin(0, 0)", empty, x -> x.bin(0, 0), NONE);
        refused("pixel(0, 0)", empty, x -> x.pixel(0, 0), NONE);
        refused("shown(0, 0)", empty, x -> x.shown(0, 0), NONE);
        refused("whole(0, 0)", empty, x -> x.whole(0, 0), NONE);
        refused("layer(0, 0, 0, 0)", empty, x -> x.layer(0, 0, 0, 0), NONE);
        refused("left(0)", empty, x -> x.left(0), NONE);
        refused("shaded(0)", empty, x -> x.shaded(0), 0);
        refused("run(0, 0)", empty, x -> x.run(0, 0), HIDDEN);
        refused("run(0, 1)", empty, x -> x.run(0, 1), HIDDEN);
        refused("perform(0)", empty, x -> x.perform(0), NONE);
        refused("years(1, 1)", empty, x -> x.years(1, 1L), NONE);
        refused("undo()", empty, TileLights::undo, NONE);
        refused("image()", empty, TileLights::image, NONE);
        refused("back()", empty, TileLights::back, NONE);
    }

    // ---- ACTS ----

    private static void actsRefused() {
        Consumer<TileLights> busy = RefusedTest::busy;
        says("draw: NONE: no such TRIANGLE (STATUS 0), CULLED, it TOUCHES no TILE (2)");
        for (int t : new int[] {-1, 5, 10, MIN, MAX}) Bounds.refused("draw(" + t + ")", busy, x -> x.draw(t), NONE, 0);
        Bounds.refused("draw(2), AREA 0", busy, x -> x.draw(2), NONE, 2);
        Bounds.refused("draw(3), beside all", busy, x -> x.draw(3), NONE, 2);
        Bounds.refused("draw(0), CULLED by 2", RefusedTest::culling, x -> x.draw(0), NONE, 2);
        Bounds.refused("draw(4), CULLED by 1", RefusedTest::turnedCulled, x -> x.draw(4), NONE, 2);
        says("flush: NONE: no such TILE (STATUS 0), its BIN is empty and none is PENDING in it (2)");
        for (int tile : new int[] {-1, 4, 15, 16, MIN, MAX}) Bounds.refused("flush(" + tile + ")", busy, x -> x.flush(tile), NONE, 0);
        for (int tile = 0; tile < 4; tile++) {
            int itsTile = tile;
            Bounds.refused("flush(" + tile + ") behind all", RefusedTest::culling, x -> x.flush(itsTile), NONE, 2);
        }
        says("set: NONE: no such what, out of bounds (1), it is so (2)");
        for (int what : new int[] {-1, 4, MIN, MAX}) Bounds.refused("set(" + what + ", 1)", busy, x -> x.set(what, 1), NONE, 1);
        int[] low = {0, 0, 0, 1};
        int[] high = {2, 1, 1, 10};
        for (int what = 0; what < 4; what++) {
            int w = what;
            for (int v : new int[] {low[what] - 1, high[what] + 1, MIN, MAX}) Bounds.refused("set(" + what + ", " + v + ")", busy, x -> x.set(w, v), NONE, 1);
            Bounds.refused("set(" + what + ") as it is", busy, x -> x.set(w, x.rule(5 + w)), NONE, 2);
            Bounds.refused("set(" + what + ") as it is", RefusedTest::culling, x -> x.set(w, x.rule(5 + w)), NONE, 2);
        }
        movesRefused(busy);
    }

    private static void movesRefused(Consumer<TileLights> busy) {
        says("move: HIDDEN: no such TRIANGLE (STATUS 0), no such CORNER, not -20 .. 20, its x or y beyond -99 .. 160 then (1), by 0 both (2), it is in a BIN (3)");
        for (int t : new int[] {-1, 5, MIN, MAX}) Bounds.refused("move(" + t + ", 0, 1, 1)", busy, x -> x.move(t, 0, 1, 1), HIDDEN, 0);
        for (int c : new int[] {-1, 3, MIN, MAX}) Bounds.refused("move(3, " + c + ", 1, 1)", busy, x -> x.move(3, c, 1, 1), HIDDEN, 1);
        for (int by : new int[] {-21, 21, MIN, MAX}) {
            Bounds.refused("move(3, 0, " + by + ", 0)", busy, x -> x.move(3, 0, by, 0), HIDDEN, 1);
            Bounds.refused("move(3, 0, 0, " + by + ")", busy, x -> x.move(3, 0, 0, by), HIDDEN, 1);
        }
        Consumer<TileLights> culling = RefusedTest::culling;
        Bounds.refused("move(4, 0, -1, 0)", culling, x -> x.move(4, 0, -1, 0), HIDDEN, 1);
        Bounds.refused("move(4, 0, 0, -1)", culling, x -> x.move(4, 0, 0, -1), HIDDEN, 1);
        Bounds.refused("move(4, 1, 0, 1)", culling, x -> x.move(4, 1, 0, 1), HIDDEN, 1);
        Bounds.refused("move(4, 2, 1, 0)", culling, x -> x.move(4, 2, 1, 0), HIDDEN, 1);
        Bounds.refused("move(4, 2, 1, 1)", culling, x -> x.move(4, 2, 1, 1), HIDDEN, 1);
        Bounds.refused("move(3, 0, 0, 0)", busy, x -> x.move(3, 0, 0, 0), HIDDEN, 2);
        Bounds.refused("move(1, 0, 0, 0), in a BIN", busy, x -> x.move(1, 0, 0, 0), HIDDEN, 2);
        Bounds.refused("move(1, 0, 1, 0), in a BIN", busy, x -> x.move(1, 0, 1, 0), HIDDEN, 3);
        Bounds.refused("move(1, 2, 20, -20), in a BIN", busy, x -> x.move(1, 2, 20, -20), HIDDEN, 3);
    }

    private static void actsWithoutScene() {
        says("no SCENE (STATUS 0)");
        for (Consumer<TileLights> none : List.<Consumer<TileLights>>of(RefusedTest::empty, x -> { })) {
            Bounds.refused("draw(0)", none, x -> x.draw(0), NONE, 0);
            Bounds.refused("flush(0)", none, x -> x.flush(0), NONE, 0);
            Bounds.refused("all()", none, TileLights::all, NONE, 0);
            Bounds.refused("clear()", none, TileLights::clear, NONE, 0);
            Bounds.refused("set(2, 0)", none, x -> x.set(2, 0), NONE, 0);
            Bounds.refused("set(-1, -1)", none, x -> x.set(-1, -1), NONE, 0);
            Bounds.refused("set(2, 1)", none, x -> x.set(2, 1), NONE, 0);
            Bounds.refused("move(0, 0, 1, 1)", none, x -> x.move(0, 0, 1, 1), HIDDEN, 0);
            Bounds.refused("move(0, 9, 99, 99)", none, x -> x.move(0, 9, 99, 99), HIDDEN, 0);
            Bounds.refused("move(0, 0, 0, 0)", none, x -> x.move(0, 0, 0, 0), HIDDEN, 0);
        }
    }

    private static void yearsUndoImage() {
        says("years: NONE: out of bounds");
        for (int n : new int[] {0, -1, 41, MIN, MAX}) refused("years(" + n + ", 5)", RefusedTest::busy, x -> x.years(n, 5L), NONE);
        says("undo: NONE: none");
        Consumer<TileLights> undone = x -> {
            busy(x);
            while (x.undo() > 0) { }
        };
        refused("undo()", undone, TileLights::undo, NONE);
        Consumer<TileLights> back = x -> {
            busy(x);
            x.back();
        };
        refused("undo() behind BACK", back, TileLights::undo, NONE);
        says("back: NONE: no IMAGE of this SCENE");
        refused("back()", RefusedTest::noImage, TileLights::back, NONE);
        Consumer<TileLights> another = x -> {
            busy(x);
            noImage(x);
        };
        refused("back() of another SCENE", another, TileLights::back, NONE);
    }

    private static void scripts() {
        says("step: HIDDEN: no such ones, there are fewer");
        for (int bad : new int[] {-1, 2, MIN, MAX}) {
            refused("step(" + bad + ", 0, 0)", RefusedTest::busy, x -> x.step(bad, 0, 0), HIDDEN);
            refused("run(" + bad + ", 0)", RefusedTest::busy, x -> x.run(bad, 0), HIDDEN);
            refused("run(0, " + bad + ")", RefusedTest::busy, x -> x.run(0, bad), HIDDEN);
            refused("perform(" + bad + ")", RefusedTest::busy, x -> x.perform(bad), NONE);
        }
        for (int bad : new int[] {-1, 4, MIN, MAX}) {
            refused("step(0, " + bad + ", 0)", RefusedTest::busy, x -> x.step(0, bad, 0), HIDDEN);
            refused("step(" + bad + ", 0, 0)", RefusedTest::full, x -> x.step(bad, 0, 0), HIDDEN);
            refused("run(" + bad + ", 0)", RefusedTest::full, x -> x.run(bad, 0), HIDDEN);
            refused("perform(" + bad + ")", RefusedTest::full, x -> x.perform(bad), NONE);
        }
        for (int bad : new int[] {-1, 5, MIN, MAX}) refused("step(0, 2, " + bad + ")", RefusedTest::busy, x -> x.step(0, 2, bad), HIDDEN);
        refused("step(0, 0, 2)", RefusedTest::busy, x -> x.step(0, 0, 2), HIDDEN);
        refused("step(0, 1, 1)", RefusedTest::busy, x -> x.step(0, 1, 1), HIDDEN);
        says("DO: up to there (no STATUS): none of its STEPS can be");
        Consumer<TileLights> nothing = x -> {
            busy(x);
            Bounds.tell(x, "draw 2;all", 1);
            Bounds.feed(x, "all");
        };
        refused("perform(2)", nothing, x -> x.perform(2), 0);
        refused("run(2, 0)", nothing, x -> x.run(2, 0), 0);
    }

    /** What is asked changes nothing either: some fifty looks at a time. */
    private static void asking() {
        says("(Apart, from as it is now.)");
        for (Consumer<TileLights> setup : List.<Consumer<TileLights>>of(RefusedTest::busy, RefusedTest::culling, RefusedTest::empty)) {
            TileLights like = new TileLights();
            setup.accept(like);
            List<Bounds.Look> looks = Bounds.looks(like);
            for (int from = 0; from < looks.size(); from += 50) {
                List<Bounds.Look> some = looks.subList(from, Math.min(from + 50, looks.size()));
                Bounds.same("looks from " + some.get(0).name, setup, x -> {
                    for (Bounds.Look look : some) Bounds.answer(look.ask, x);
                });
            }
        }
    }

    private static final String[] OTHERS = {
        "size 1,1;tile 2;many 4;back 3;flat -9,-9,5,99,-9,50,-9,99,8,70,8",
        "size 8,2;tile 3;many 1;cull 1;deep 0,0,9,60,0,5,0,16,1,99,8;flat 60,16,0,0,16,0,60,0,0,50,4",
        "size 2,5;tile 4;many 2;test 1;late 0;check -9,-9,9,99,-9,5,-9,99,1,99,8;rows 0,0,3,16,0,3,0,40,3,50,8;flat 3,3,0,9,3,0,3,9,0,8,2",
        SCENE, SCENE.replace("many 2", "many 4").replace("tile 2", "tile 3"), SCENE.replace("size 3,3", "size 2,4").replace(",70,8", ",70,3")};

    /** Whatever SCENE was ahead, and whatever was done in it: it is as in an object that never had one. */
    private static void anotherScene() {
        says("The TAPE is the SCENE (CLEARED; all that was of another one is gone but SCRIPTS, STATUS)");
        for (String ahead : OTHERS) {
            for (String text : OTHERS) {
                Consumer<TileLights> acts = x -> {
                    x.draw(0);
                    x.draw(1);
                    x.flush(0);
                    x.draw(0);
                    x.move(1, 0, 1, 1);
                };
                Bounds.alike("in a SCENE behind another", x -> {
                    Bounds.tell(x, ahead, 0);
                    acts.accept(x);
                    x.set(3, 1);
                    x.image();
                    Bounds.tell(x, text, 0);
                    acts.accept(x);
                }, x -> {
                    Bounds.tell(x, text, 0);
                    acts.accept(x);
                });
            }
        }
        Bounds.alike("in the largest SCENE behind another", RefusedTest::largestBehindAnother, RefusedTest::largest);
        Bounds.alike("in a SCENE behind the largest", x -> {
            largest(x);
            Bounds.tell(x, OTHERS[1], 0);
        }, x -> {
            for (String script : SCRIPTS) Bounds.tell(x, script, 1);
            Bounds.tell(x, OTHERS[1], 0);
        });
        says("SCRIPTS, STATUS stay");
        TileLights x = new TileLights();
        full(x);
        int[] before = new int[4];
        for (int i = 0; i < 4; i++) before[i] = x.status(i);
        Bounds.due("text(0)", Bounds.tell(x, SCENE, 0), 5);
        for (int i = 0; i < 4; i++) Bounds.due("status(" + i + ")", x.status(i), before[i]);
        Bounds.due("count(1)", x.count(1), 4);
        Bounds.due("step(0, 2, 4)", x.step(0, 2, 4), 3);
        Bounds.due("count(2): the TAPE is empty then", x.count(2), 0);
    }

    /** Each sort of ACT, UNDONE or gone BACK from: all is as it was. */
    private static void undoneAndBack() {
        List<ToLongFunction<TileLights>> acts = List.of(x -> x.draw(0), x -> x.draw(1), x -> x.draw(4), x -> x.flush(0), x -> x.flush(3), TileLights::all, TileLights::clear,
            x -> x.set(0, 1), x -> x.set(0, 2), x -> x.set(1, 0), x -> x.set(2, 0), x -> x.set(3, 1), x -> x.move(3, 0, -20, -20), x -> x.move(3, 2, -20, 20));
        for (int i = 0; i < acts.size(); i++) {
            ToLongFunction<TileLights> act = acts.get(i);
            says("The latest ACT is UNDONE");
            Bounds.same("ACT " + i + " and undo()", RefusedTest::busy, x -> {
                Bounds.due("it is an ACT", act.applyAsLong(x) == NONE ? 0 : 1, 1);
                x.undo();
            });
            says("BACK: they are so again");
            Bounds.alike("behind ACT " + i + " and back()", x -> {
                busy(x);
                x.image();
                act.applyAsLong(x);
                x.back();
            }, x -> {
                busy(x);
                x.image();
                x.back();
            });
        }
    }

    /** 40 ACTS that can be UNDONE, 60 in the LOG: what is refused takes the place of none. */
    private static void fullOfActs() {
        says("the latest 40 ACTS, the latest 60 of the LOG: what is refused is none of them");
        TileLights x = new TileLights();
        Bounds.tell(x, SCENE, 0);
        x.draw(0);
        for (int i = 0; i < 19; i++) x.clear();
        for (int i = 0; i < 40; i++) x.all();
        for (int i = 0; i < 45; i++) {
            x.draw(9);
            x.flush(0);
            x.set(0, 0);
            x.move(0, 0, 0, 0);
            x.years(0, 0L);
        }
        Bounds.due("STATUS 0", x.status(0), 45);
        Bounds.due("STATUS 2", x.status(2), 135);
        Bounds.due("count(5)", x.count(5), 40);
        Bounds.due("the first ACT is in the LOG", x.log(59, 0) * 10 + x.log(0, 0), 2);
        for (int i = 39; i >= 0; i--) Bounds.due("undo()", x.undo(), i);
        Bounds.due("clear is the latest then", x.count(4) * 10 + x.log(0, 0), 203);
    }
}
