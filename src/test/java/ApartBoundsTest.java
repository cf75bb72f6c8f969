import java.math.BigInteger;

/** Paragraphs 3 and 4 of the document, sentence by sentence: what is asked apart, SCRIPTS that are run and done, YEARS, IMAGES. */
public final class ApartBoundsTest {
    private static final int NONE = Bounds.NONE;
    private static final int HIDDEN = Bounds.HIDDEN;
    private static final String ONE = "size 1,1;tile 2;";
    private static final String TWO = "size 2,2;tile 2;";
    private static final BigInteger ROUND = BigInteger.ONE.shiftLeft(64);

    public static void main(String[] args) {
        layers();
        sharedSamples();
        border();
        borderOfCulled();
        shown();
        whole();
        hides();
        left();
        saved();
        ordersOfFew();
        ordersOfFour();
        ordersByRules();
        shifts();
        shiftsBeyond();
        run();
        stepsThatCantBe();
        perform();
        yearsBounds();
        yearsSorts();
        yearsThatCantBe();
        yearsRound();
        image();
        back();
        allCornersMoved();
        most();
        count();
        Bounds.finish();
    }

    private static void says(String words) {
        Bounds.says(words);
    }

    private static void due(String call, long got, long want) {
        Bounds.due(call, got, want);
    }

    private static TileLights scene(String text) {
        return Bounds.scene(text);
    }

    private static String cover(int z, int color, int alpha) {
        return Bounds.cover("flat", z, color, alpha);
    }

    // ---- paragraph 3 ----

    private static void layers() {
        says("LAYERS of a SAMPLE: TRIANGLES that COVER it, the least DEPTH there first, of equal ones the lower number");
        int[] z = {9, 5, 9, 0, 999, 5, 1, 5, 2, 9};
        StringBuilder text = new StringBuilder("size 1,1");
        for (int i = 0; i < 10; i++) text.append(';').append(cover(z[i], i, 1 + i % 8));
        TileLights x = scene(text.toString());
        int[] want = {3, 6, 8, 1, 5, 7, 0, 2, 9, 4};
        for (int i = 0; i < 10; i++) due("layer(0, 0, 0, " + i + ")", x.layer(0, 0, 0, i), want[i]);
        for (int i : new int[] {-1, 10, 11, Bounds.MIN, Bounds.MAX}) due("layer(0, 0, 0, " + i + ")", x.layer(0, 0, 0, i), NONE);
        for (int sample : new int[] {-1, 1, Bounds.MIN, Bounds.MAX}) due("layer(0, 0, " + sample + ", 0)", x.layer(0, 0, sample, 0), NONE);
        x.set(0, 2);
        due("CULLED ones COVER nothing", x.layer(0, 0, 0, 0), NONE);
        says("DEPTH there: the order changes from SAMPLE to SAMPLE");
        TileLights y = scene("size 2,1;many 2;flat -9,-9,0,99,-9,108,-9,99,0,7,8;" + cover(17, 8, 8) + ";" + Bounds.point(14, 6, 17, 7, 8));
        // The first has DEPTH x and 9: 11, 15, 19, 23 at the SAMPLES.
        due("at 2", y.layer(0, 0, 0, 0) * 10 + y.layer(0, 0, 0, 1), 1);
        due("at 6", y.layer(0, 0, 1, 0) * 10 + y.layer(0, 0, 1, 1), 1);
        due("at 10", y.layer(1, 0, 0, 0) * 10 + y.layer(1, 0, 0, 1), 10);
        due("at 14", y.layer(1, 0, 1, 0) * 100 + y.layer(1, 0, 1, 1) * 10 + y.layer(1, 0, 1, 2), 120);
        due("no third at 10", y.layer(1, 0, 0, 2), NONE);
        due("it is asked whatever was DRAWN", y.most(9) + y.most(0), 0);
    }

    private static void sharedSamples() {
        says("Of two TRIANGLES: SAMPLES that both COVER (0), that just one of them does (1)");
        TileLights x = scene(TWO + cover(5, 7, 8) + ";" + Bounds.point(4, 4, 5, 7, 8) + ";" + Bounds.point(12, 12, 5, 7, 8) + ";" + Bounds.point(99, 99, 5, 7, 8));
        due("four and one of these", x.shared(0, 1, 0) * 10 + x.shared(0, 1, 1), 13);
        due("the other way round", x.shared(1, 0, 0) * 10 + x.shared(1, 0, 1), 13);
        due("one each", x.shared(1, 2, 0) * 10 + x.shared(1, 2, 1), 2);
        due("one that COVERS nothing", x.shared(0, 3, 0) * 10 + x.shared(0, 3, 1), 4);
        TileLights zero = scene(TWO + cover(0, 7, 8) + ";" + cover(0, 7, 8) + ";flat 0,4,0,16,4,0,8,30,0,7,8;flat 0,4,0,16,4,0,8,40,0,7,8");
        due("DEPTH 0 is COVERED, too", zero.shared(0, 1, 0) * 10 + zero.shared(0, 1, 1), 40);
        due("on a BORDER, too", zero.border(2, 3, 2), 2);
        due("nothing at all", x.shared(3, 3, 0) * 10 + x.shared(3, 3, 1), 0);
        due("one with itself", x.shared(0, 0, 0) * 10 + x.shared(0, 0, 1), 40);
        for (int bad : new int[] {-1, 4, Bounds.MIN, Bounds.MAX}) {
            due("shared(" + bad + ", 0, 0)", x.shared(bad, 0, 0), NONE);
            due("shared(0, " + bad + ", 0)", x.shared(0, bad, 0), NONE);
        }
        for (int bad : new int[] {-1, 2, Bounds.MIN, Bounds.MAX}) due("shared(0, 1, " + bad + ")", x.shared(0, 1, bad), NONE);
    }

    private static void borders(TileLights x, int on, int one, int both) {
        due("border(0, 1, 0)", x.border(0, 1, 0), on);
        due("border(0, 1, 1)", x.border(0, 1, 1), one);
        due("border(0, 1, 2)", x.border(0, 1, 2), both);
        due("border(1, 0, 0)", x.border(1, 0, 0), on);
        due("border(1, 0, 1)", x.border(1, 0, 1), one);
        due("border(1, 0, 2)", x.border(1, 0, 2), both);
    }

    private static void border() {
        says("BORDER of two TRIANGLES: SAMPLES at which no SUM of an EDGE of either is below 0, and some of each is 0");
        // A level EDGE through the CENTRES of the upper row, from 0 to 16.
        String lower = "flat 0,4,5,16,4,5,8,30,5,7,8";
        borders(scene(TWO + lower + ";flat 16,4,5,0,4,5,8,-30,5,7,8"), 2, 2, 0);
        borders(scene(TWO + lower + ";flat 16,5,5,0,5,5,8,-30,5,7,8"), 0, 0, 0);
        borders(scene(TWO + lower + ";flat 16,3,5,0,3,5,8,-30,5,7,8"), 0, 0, 0);
        borders(scene(TWO + lower + ";flat 0,4,5,16,4,5,8,40,5,7,8"), 2, 0, 2);
        says("on the BORDER of one, inside or outside of the other");
        borders(scene(TWO + lower + ";" + cover(5, 7, 8)), 0, 0, 0);
        borders(scene(TWO + lower + ";" + Bounds.point(4, 12, 5, 7, 8)), 0, 0, 0);
        says("a CORNER of one on an EDGE of the other");
        borders(scene(TWO + lower + ";" + Bounds.point(4, 4, 5, 7, 8)), 1, 0, 1);
        borders(scene(TWO + lower + ";flat 4,4,5,3,4,5,4,3,5,7,8"), 1, 1, 0);
        says("on the line of an EDGE, but outside: a SUM is below 0");
        borders(scene(TWO + "flat 0,4,5,10,4,5,5,30,5,7,8;flat 10,4,5,0,4,5,5,-30,5,7,8"), 1, 1, 0);
        says("neither COVERS it, both have it on their BORDER");
        borders(scene(TWO + "flat 4,4,5,3,4,5,4,3,5,7,8;flat 4,4,5,4,3,5,5,3,5,7,8"), 1, 0, 0);
        says("one TRIANGLE with itself: its own border");
        TileLights x = scene(TWO + lower);
        due("border(0, 0, 0)", x.border(0, 0, 0), 2);
        due("just one of them", x.border(0, 0, 1), 0);
        due("both: it is HIGH", x.border(0, 0, 2), 2);
        for (int bad : new int[] {-1, 1, Bounds.MIN, Bounds.MAX}) {
            due("border(" + bad + ", 0, 0)", x.border(bad, 0, 0), NONE);
            due("border(0, " + bad + ", 0)", x.border(0, bad, 0), NONE);
        }
        for (int bad : new int[] {-1, 3, Bounds.MIN, Bounds.MAX}) due("border(0, 0, " + bad + ")", x.border(0, 0, bad), NONE);
    }

    private static void borderOfCulled() {
        says("BORDER of two TRIANGLES, neither CULLED (else there is none)");
        String text = TWO + "flat 0,4,5,16,4,5,8,30,5,7,8;flat 0,4,5,16,4,5,8,-30,5,7,8;flat 0,4,5,8,4,5,16,4,5,7,8";
        TileLights x = scene(text);
        borders(x, 2, 2, 0);
        for (int t = 0; t < 3; t++) {
            due("with one of AREA 0", x.border(t, 2, 0) + x.border(2, t, 0) + x.border(t, 2, 1) + x.border(2, t, 2), 0);
        }
        for (int cull = 1; cull <= 2; cull++) {
            x.set(0, cull);
            borders(x, 0, 0, 0);
            due("just one COVERS", x.shared(0, 1, 1), x.triangle(cull - 1, 9));
        }
        x.set(0, 0);
        borders(x, 2, 2, 0);
    }

    private static void shown() {
        says("SHOWN, a PIXEL: RESOLVED, were all TILES FLUSHED");
        TileLights x = scene("size 4,2;tile 2;back 3;" + cover(5, 7, 8) + ";" + cover(4, 80, 4));
        due("BINS are empty: as now", x.shown(0, 0), 3);
        x.draw(0);
        due("TILE 0", x.shown(0, 0), 7);
        due("TILE 1", x.shown(3, 1), 7);
        x.flush(0);
        x.draw(1);
        due("what is there and what is in the BIN", x.shown(0, 0), 43);
        due("all of the BIN", x.shown(3, 1), 43);
        due("apart", x.pixel(0, 0) * 100 + x.pixel(3, 1) * 10 + x.tile(0, 0) + x.tile(1, 0), 733);
        x.set(0, 2);
        due("rules as now: CULLED in its BIN", x.shown(0, 0) * 10 + x.shown(3, 1), 73);
        due("no SCENE", new TileLights().shown(0, 0), NONE);
        due("shown(-1, 0)", x.shown(-1, 0), NONE);
        due("shown(4, 0)", x.shown(4, 0), NONE);
        due("shown(0, 2)", x.shown(0, 2), NONE);
    }

    private static void whole() {
        says("WHOLE: were all CLEARED, all TRIANGLES DRAWN in the order of their numbers (rules as now), and all TILES FLUSHED");
        TileLights x = scene(ONE + "back 3;" + cover(5, 80, 4) + ";" + cover(5, 7, 8) + ";" + cover(5, 9, 8));
        due("1 lies on what was blended, 2 is as far", x.whole(0, 0), 7);
        x.set(1, 1);
        due("by test 1 the last", x.whole(0, 0), 9);
        x.set(0, 2);
        due("all CULLED: back", x.whole(0, 0), 3);
        x.set(0, 0);
        x.draw(0);
        x.all();
        due("CLEARED first", x.whole(0, 0), 9);
        due("apart", x.pixel(0, 0), 41);
        TileLights half = scene(ONE + "back 3;" + cover(5, 80, 4));
        for (int i = 0; i < 3; i++) {
            half.draw(0);
            half.all();
            due("CLEARED first: blended once", half.whole(0, 0), 41);
        }
        half.draw(0);
        due("what is in BINS is gone, too", half.whole(0, 0), 41);
        says("a full BIN is FLUSHED: with room 1 what is blended later lies on what was SHADED");
        for (int room = 1; room <= 10; room++) {
            TileLights y = scene(ONE + "room " + room + ";" + cover(9, 80, 8) + ";" + cover(8, 0, 4) + ";" + cover(7, 80, 4) + ";" + cover(6, 255, 1));
            due("whole by room " + room, y.whole(0, 0), (255 + 7 * 60) / 8);
        }
        due("no SCENE", new TileLights().whole(0, 0), NONE);
    }

    private static void hides() {
        says("HIDES: TRIANGLES (bits) that are SHADED nowhere");
        StringBuilder text = new StringBuilder(ONE + cover(0, 7, 8));
        for (int i = 1; i < 10; i++) text.append(';').append(cover(i, 7, 8));
        TileLights x = scene(text.toString());
        due("all but the first", x.most(5), 1022);
        x.set(2, 0);
        due("by late 0, too", x.most(5), 1022);
        x.set(1, 1);
        due("by test 1, too", x.most(5), 1022);
        x.set(0, 2);
        due("all CULLED", x.most(5), 1023);
        TileLights y = scene(ONE + cover(9, 7, 8) + ";" + cover(5, 7, 8) + ";" + Bounds.point(99, 99, 0, 7, 8) + ";flat 0,0,0,4,4,0,8,8,0,7,8");
        due("by late 1 the first is not seen; one beside all, one with AREA 0", y.most(5), 13);
        y.set(2, 0);
        due("by late 0 the first is SHADED", y.most(5), 12);
        y.set(2, 1);
        y.set(3, 1);
        due("by room 1 it is SHADED, too", y.most(5), 12);
        due("none", scene(ONE + cover(9, 7, 8)).most(5), 0);
    }

    private static void left() {
        says("LEFT of a TRIANGLE: how many PIXELS would be RESOLVED otherwise, were it not DRAWN");
        TileLights x = scene(TWO + "back 7;" + cover(9, 7, 8) + ";" + cover(8, 9, 8) + ";" + Bounds.point(4, 4, 1, 9, 8) + ";" + Bounds.point(12, 12, 1, 8, 1)
            + ";flat 0,0,0,4,4,0,8,8,0,7,8");
        due("behind another", x.left(0), 0);
        due("all but where another has the same COLOR", x.left(1), 3);
        due("the same COLOR", x.left(2), 0);
        due("8 and 9 times 7 by 8 is 8", x.left(3), 1);
        due("AREA 0", x.left(4), 0);
        x.set(0, 2);
        due("CULLED", x.left(1), 0);
        due("all PIXELS", scene("flat -99,-99,0,160,-99,0,-99,160,0,7,8;flat 160,160,0,-99,160,0,160,-99,0,7,8").left(1) + 0L, 64 - 28);
        due("of a frame of 4 times 4", scene("size 4,4;" + cover(5, 7, 8)).left(0), 16);
        due("RESOLVED: one of four SAMPLES by 3 is no other mean", scene("size 1,1;many 4;" + Bounds.point(3, 1, 5, 3, 8)).left(0), 0);
        due("by 4 it is", scene("size 1,1;many 4;" + Bounds.point(3, 1, 5, 4, 8)).left(0), 1);
        for (int bad : new int[] {-1, 5, Bounds.MIN, Bounds.MAX}) due("left(" + bad + ")", x.left(bad), NONE);
        due("no SCENE", new TileLights().left(0), NONE);
    }

    private static void saved() {
        says("SAVED: how many pairs fewer are SHADED with late 1 than with late 0");
        due("none", scene(TWO + cover(5, 7, 8)).most(6), 0);
        due("far, then near", scene(TWO + cover(9, 7, 8) + ";" + cover(5, 7, 8)).most(6), 4);
        due("near, then far", scene(TWO + cover(5, 7, 8) + ";" + cover(9, 7, 8)).most(6), 0);
        due("room 1: the first was SHADED by its FLUSH", scene(TWO + "room 1;" + cover(9, 7, 8) + ";" + cover(5, 7, 8)).most(6), 0);
        due("blended on", scene(TWO + cover(9, 7, 8) + ";" + cover(8, 7, 4) + ";" + cover(5, 7, 8)).most(6), 0);
        TileLights x = scene(TWO + "late 0;" + cover(9, 7, 8) + ";" + cover(5, 7, 8));
        due("whatever late is", x.most(6), 4);
        due("late is left as it is", x.rule(7), 0);
        StringBuilder text = new StringBuilder("size 4,4;tile 2");
        for (int i = 9; i >= 0; i--) text.append(';').append(cover(i, 7, 8));
        due("nine of ten, 16 PIXELS", scene(text.toString()).most(6), 144);
    }

    private static void orders(String about, TileLights x, int fewest, int first, int most) {
        due("the fewest: " + about, x.orders(0), fewest);
        due("the first order: " + about, x.orders(1), first);
        due("the most: " + about, x.orders(2), most);
    }

    private static void ordersOfFew() {
        says("ORDERS: 0 each, if there are no such TRIANGLES");
        orders("none OPAQUE", scene(TWO + cover(5, 7, 7)), 0, 0, 0);
        orders("all CULLED", scene(TWO + "cull 2;" + cover(5, 7, 8)), 0, 0, 0);
        orders("AREA 0", scene(TWO + "flat 0,0,0,4,4,0,8,8,0,7,8"), 0, 0, 0);
        says("of all orders of these (sorted by numbers, the first one's first: 0 is numbers rising)");
        orders("one", scene(TWO + cover(5, 7, 8)), 4, 0, 4);
        orders("one beside all", scene(TWO + Bounds.point(99, 99, 5, 7, 8)), 0, 0, 0);
        orders("two, near first", scene(TWO + cover(5, 7, 8) + ";" + cover(6, 7, 8)), 4, 0, 8);
        orders("two, far first", scene(TWO + cover(6, 7, 8) + ";" + cover(5, 7, 8)), 4, 1, 8);
        orders("two alike", scene(TWO + cover(5, 7, 8) + ";" + cover(5, 7, 8)), 4, 0, 4);
        // Three with z a, b, c: orders 0 1 2, 0 2 1, 1 0 2, 1 2 0, 2 0 1, 2 1 0; the nearest goes first.
        orders("three, the first nearest", scene(TWO + cover(1, 7, 8) + ";" + cover(2, 7, 8) + ";" + cover(3, 7, 8)), 4, 0, 12);
        orders("three, the second nearest", scene(TWO + cover(2, 7, 8) + ";" + cover(1, 7, 8) + ";" + cover(3, 7, 8)), 4, 2, 12);
        orders("three, the third nearest", scene(TWO + cover(3, 7, 8) + ";" + cover(2, 7, 8) + ";" + cover(1, 7, 8)), 4, 4, 12);
        for (int what : new int[] {-1, 3, Bounds.MIN, Bounds.MAX}) due("orders(" + what + ")", scene(TWO + cover(5, 7, 8)).orders(what), NONE);
        for (int what = -1; what <= 3; what++) due("no SCENE: orders(" + what + ")", new TileLights().orders(what), NONE);
    }

    private static void ordersOfFour() {
        says("of the OPAQUE TRIANGLES that are not CULLED the first four (by numbers) alone are DRAWN");
        // The nearer one COVERS one PIXEL alone and leaves three of the farther one to be SHADED.
        String far = cover(9, 7, 8);
        String half = "flat -9,-9,8,19,-9,8,-9,19,8,7,8";
        orders("four and a fifth", scene(ONE + cover(9, 7, 8) + ";" + cover(8, 7, 8) + ";" + cover(7, 7, 8) + ";" + cover(6, 7, 8) + ";" + cover(1, 7, 8)), 1, 18, 4);
        orders("one with ALPHA 7 is none of them", scene(ONE + cover(0, 7, 7) + ";" + cover(9, 7, 8) + ";" + cover(8, 7, 8) + ";" + cover(7, 7, 8) + ";" + cover(6, 7, 8)), 1, 18, 4);
        orders("one that is CULLED is none of them", scene(ONE + "flat 0,0,0,4,4,0,8,8,0,7,8;" + cover(9, 7, 8) + ";" + cover(8, 7, 8) + ";" + cover(7, 7, 8) + ";" + cover(6, 7, 8)), 1, 18, 4);
        orders("one beside all is one of them", scene(ONE + Bounds.point(99, 99, 0, 7, 8) + ";" + cover(9, 7, 8) + ";" + cover(8, 7, 8) + ";" + cover(7, 7, 8) + ";" + cover(6, 7, 8)), 1, 4, 3);
        orders("each nearer one larger", scene("size 4,1;tile 4;flat 24,0,9,32,0,9,24,99,9,7,8;flat 16,0,8,32,0,8,16,99,8,7,8;flat 8,0,7,40,0,7,8,99,7,7,8;" + cover(6, 7, 8)), 4, 18, 10);
        orders("not all are hidden", scene(TWO + far + ";" + half), 4, 1, 5);
        says("the last of all orders is the first by which least is SHADED");
        // Each nearer one lies on a PIXEL more than the one ahead, beginning from the right, so only 3 2 1 0 leaves out all.
        TileLights x = scene("size 5,1;tile 2;" + strip(0, 40, 9) + ";" + strip(0, 32, 8) + ";" + strip(0, 24, 7) + ";" + strip(0, 16, 6));
        orders("strips one upon another", x, 5, 23, 14);
    }

    /** A TRIANGLE that COVERS the CENTRES from x to ahead of the other x in the upper row, and a little below. */
    private static String strip(int from, int to, int z) {
        return "flat " + from + ",4," + z + "," + to + ",4," + z + "," + from + ",6," + z + ",7,8";
    }

    private static void ordersByRules() {
        says("into a CLEARED frame, with late 0");
        TileLights x = scene(TWO + cover(6, 7, 8) + ";" + cover(5, 7, 8));
        orders("late 1", x, 4, 1, 8);
        x.set(2, 0);
        orders("late 0", x, 4, 1, 8);
        x.draw(1);
        x.all();
        x.draw(0);
        orders("whatever was DRAWN", x, 4, 1, 8);
        due("apart", x.most(0) * 10 + x.most(9), 41);
        says("test, cull, room as now");
        TileLights y = scene(TWO + cover(5, 7, 8) + ";" + cover(5, 7, 8) + ";flat -9,-9,1,-9,99,1,99,-9,1,7,8");
        orders("all three", y, 4, 4, 8);
        y.set(1, 1);
        orders("by test 1 what is as great is SHADED again", y, 4, 4, 12);
        y.set(0, 1);
        orders("without the CULLED one", y, 8, 0, 8);
        y.set(0, 2);
        orders("the other way round", y, 4, 0, 4);
        for (int room = 1; room <= 10; room++) {
            orders("room " + room, scene(TWO + "room " + room + ";" + cover(6, 7, 8) + ";" + cover(5, 7, 8)), 4, 1, 8);
        }
    }

    private static void shifts() {
        says("SHIFTS of a TRIANGLE by n (1 .. 3): moved by -n .. n eighths across and down each");
        TileLights x = scene(ONE + Bounds.point(4, 4, 5, 7, 8));
        for (int n = 1; n <= 3; n++) {
            int side = 2 * n + 1;
            due("the most by " + n, x.shifts(0, n, 0), 1);
            due("the first shift is the middle one by " + n, x.shifts(0, n, 1), side * side / 2);
            due("as many as now by " + n, x.shifts(0, n, 2), 1);
        }
        for (int n : new int[] {-1, 0, 4, Bounds.MIN, Bounds.MAX}) {
            for (int what = 0; what <= 2; what++) due("shifts(0, " + n + ", " + what + ")", x.shifts(0, n, what), NONE);
        }
        for (int bad : new int[] {-1, 3, Bounds.MIN, Bounds.MAX}) due("shifts(0, 1, " + bad + ")", x.shifts(0, 1, bad), NONE);
        for (int bad : new int[] {-1, 1, Bounds.MIN, Bounds.MAX}) due("shifts(" + bad + ", 1, 0)", x.shifts(bad, 1, 0), NONE);
        due("no SCENE", new TileLights().shifts(0, 1, 0), NONE);
        says("the first shift by which it is so (rows by down, then across, from 0)");
        for (int n = 1; n <= 3; n++) {
            for (int down = -n; down <= n; down++) {
                for (int across = -n; across <= n; across++) {
                    TileLights y = scene(ONE + Bounds.point(4 - across, 4 - down, 5, 7, 8));
                    int side = 2 * n + 1;
                    due("by " + across + " across, " + down + " down", y.shifts(0, n, 1), (down + n) * side + across + n);
                    due("the most", y.shifts(0, n, 0), 1);
                    boolean now = across == 0 && down == 0;
                    due("as many as now", y.shifts(0, n, 2), now ? 1 : side * side - 1);
                }
            }
        }
        says("it COVERS none by any shift: the first of all, all as now");
        TileLights far = scene(ONE + Bounds.point(20, 20, 5, 7, 8));
        due("none", far.shifts(0, 3, 0) * 1000 + far.shifts(0, 3, 1) * 100 + far.shifts(0, 3, 2), 49);
        TileLights out = scene(ONE + "cull 2;" + cover(5, 7, 8) + ";flat 4,4,0,4,4,0,4,4,0,7,8");
        due("CULLED by cull", out.shifts(0, 2, 0) * 1000 + out.shifts(0, 2, 1) * 100 + out.shifts(0, 2, 2), 25);
        due("AREA 0", out.shifts(1, 1, 0) * 1000 + out.shifts(1, 1, 1) * 100 + out.shifts(1, 1, 2), 9);
        says("by how many shifts it COVERS as many as now: by 0 and 0 it does");
        TileLights all = scene(ONE + cover(5, 7, 8));
        due("all", all.shifts(0, 3, 0) * 1000 + all.shifts(0, 3, 1) * 100 + all.shifts(0, 3, 2), 1049);
    }

    private static void shiftsBeyond() {
        says("whatever its bounds");
        // At 160 it can't be MOVED to the right, but a shift goes there all the same.
        TileLights x = scene("size 1,1;flat 160,160,5,-99,160,5,160,-99,5,7,8;flat -99,-99,5,160,-99,5,-99,160,5,7,8");
        due("it can't be MOVED", x.move(0, 0, 1, 0) + x.move(1, 0, -1, 0), 2L * HIDDEN);
        // 160 and -99 added up are 61: the long EDGE is beyond 4 4 for the first and goes round it for the second.
        due("the first COVERS none", x.shifts(0, 3, 0), 0);
        due("as many as now by all 49", x.shifts(0, 3, 2), 49);
        due("the second COVERS it by each", x.shifts(1, 3, 0) * 100 + x.shifts(1, 3, 2), 149);
        TileLights y = scene("flat 160,160,5,-99,160,5,160,-99,5,7,8");
        // X and Y added up: 61 less 8 is 53 in eighths; by -3 and -3 it COVERS from 55 on, by 3 and 3 from 67 on.
        int now = y.triangle(0, 9);
        due("the most by 1", y.shifts(0, 1, 0) >= now ? 1 : 0, 1);
        due("from 60 60 on, by n 3 less", y.shifts(0, 3, 0), covering(61 - 6));
        due("as told", now, covering(61));
        due("in its bounds still", y.corner(0, 0, 0), 160);
    }

    /** How many CENTRES of a frame of 8 times 8 have x and y added up at least, or above what is told (the EDGE goes up: it is HIGH). */
    private static int covering(int sum) {
        int many = 0;
        for (int i = 0; i < 64; i++) if (i % 8 * 8 + 4 + i / 8 * 8 + 4 >= sum) many++;
        return many;
    }

    // ---- SCRIPTS ----

    private static void run() {
        says("RUN of a SCRIPT: behind how many STEPS the first is that can't be (NONE: all can be); how many pairs are SHADED behind these");
        String twelve = "draw 0;flush 0;draw 0;all;clear;draw 0;all;cull 1;test 1;late 0;room 1;move 0,0,1,1";
        TileLights x = scene(TWO + cover(5, 7, 8));
        Bounds.tell(x, twelve, 1);
        Bounds.tell(x, twelve.replace("move 0,0,1,1", "move 0,0,0,0"), 1);
        Bounds.tell(x, "flush 0;all", 1);
        Bounds.tell(x, "all", 1);
        due("all twelve can be", x.run(0, 0), NONE);
        due("pairs", x.run(0, 1), 4);
        due("the twelfth can't", x.run(1, 0), 11);
        due("pairs behind eleven", x.run(1, 1), 4);
        due("the first can't", x.run(2, 0), 0);
        due("pairs behind none", x.run(2, 1), 0);
        due("one STEP", x.run(3, 0), NONE);
        says("(Apart, from as it is now.)");
        due("nothing was done", x.most(0) + x.count(4) + x.count(5) + x.status(2) + x.most(9), 0);
        x.draw(0);
        due("from as it is now", x.run(2, 0), NONE);
        due("pairs", x.run(2, 1), 4);
        due("it is not FLUSHED", x.pixel(0, 0), 0);
        for (int script : new int[] {-1, 4, Bounds.MIN, Bounds.MAX}) due("run(" + script + ", 0)", x.run(script, 0), HIDDEN);
        for (int what : new int[] {-1, 2, Bounds.MIN, Bounds.MAX}) due("run(0, " + what + ")", x.run(0, what), HIDDEN);
        TileLights none = new TileLights();
        Bounds.tell(none, "all", 1);
        due("no SCENE", none.run(0, 0), HIDDEN);
        due("no SCENE", none.run(0, 1), HIDDEN);
        due("no SCENE", none.perform(0), NONE);
    }

    private static void stepsThatCantBe() {
        says("a STEP that can't be");
        String ahead = "size 4,2;tile 2;" + cover(5, 7, 8) + ";flat 0,0,0,4,4,0,8,8,0,7,8;" + Bounds.point(99, 99, 5, 7, 8) + ";flat -99,160,0,0,0,0,9,0,0,7,8";
        String[] cant = {"draw 1", "draw 2", "draw 4", "draw 9", "flush 0", "flush 2", "flush 15", "cull 0", "test 0", "late 1", "room 10",
            "move 0,0,0,0", "move 4,0,1,1", "move 9,2,20,20", "move 3,0,-1,0", "move 3,0,0,1", "draw 0;move 0,0,1,1", "draw 0;flush 0;flush 0",
            "draw 0;flush 0;move 0,1,1,0", "cull 2;draw 0", "room 9;room 9", "clear;flush 1", "move 3,0,20,-20;move 3,0,-20,20;move 3,0,-1,0"};
        for (String steps : cant) {
            TileLights x = scene(ahead);
            Bounds.tell(x, steps + ";all", 1);
            int at = steps.split(";").length - 1;
            due("run(0, 0) of " + steps, x.run(0, 0), at);
            due("perform(0) of " + steps, x.perform(0), at);
            due("ACTS of " + steps, x.count(5), at);
            due("no STATUS", x.status(0) + x.status(1) + x.status(2) + x.status(3), 0);
        }
        String[] can = {"draw 0", "all", "clear", "all;all;clear;clear", "cull 2", "test 1", "late 0", "room 1", "move 0,0,20,-20", "move 3,0,1,0", "move 1,0,0,1;draw 1",
            "draw 0;flush 0;flush 1", "draw 0;flush 0;flush 1;move 0,1,1,0", "draw 0;clear;move 0,0,1,1", "draw 0;all;move 0,0,1,1", "draw 0;move 3,0,1,0", "draw 0;cull 2;flush 0"};
        for (String steps : can) {
            TileLights x = scene(ahead);
            Bounds.tell(x, steps, 1);
            int many = steps.split(";").length;
            due("run(0, 0) of " + steps, x.run(0, 0), NONE);
            due("perform(0) of " + steps, x.perform(0), many);
            due("ACTS of " + steps, x.count(5), many);
        }
    }

    private static void perform() {
        says("DO: its STEPS as ACTS, up to there (no STATUS)");
        TileLights x = scene(TWO + cover(5, 7, 8) + ";" + cover(6, 9, 8));
        Bounds.tell(x, "draw 0;flush 0;draw 1;all;clear;cull 1;test 1;late 0;room 1;room 2;room 3;move 1,2,-3,4", 1);
        due("all twelve", x.perform(0), 12);
        due("twelve ACTS", x.count(5) * 100 + x.count(4), 1212);
        int[][] log = {{5, 1}, {4, 3}, {4, 3}, {4, 3}, {4, 2}, {4, 1}, {4, 0}, {3, 0}, {2, 0}, {0, 1}, {1, 0}, {0, 0}};
        for (int i = 0; i < 12; i++) due("log(" + i + ")", x.log(i, 0) * 10 + x.log(i, 1), log[i][0] * 10L + log[i][1]);
        due("a CORNER", x.corner(1, 2, 0) * 1000 + x.corner(1, 2, 1), -12000 + 103);
        for (int i = 11; i >= 0; i--) due("UNDONE one by one", x.undo(), i);
        due("as at first", x.rule(5) + x.rule(6) + x.rule(7) * 100 + x.rule(8), 110);
        due("its CORNER", x.corner(1, 2, 0) * 1000 + x.corner(1, 2, 1), -9000 + 99);
        says("NONE: no such SCRIPT");
        for (int script : new int[] {-1, 1, 4, Bounds.MIN, Bounds.MAX}) due("perform(" + script + ")", x.perform(script), NONE);
        says("the latest 40: DO four times of twelve");
        TileLights y = scene(TWO + cover(5, 7, 8));
        Bounds.tell(y, "all;all;all;all;all;all;all;all;all;all;all;all", 1);
        for (int i = 1; i <= 6; i++) {
            due("perform(0)", y.perform(0), 12);
            due("count(5)", y.count(5), Math.min(12 * i, 40));
            due("count(4)", y.count(4), Math.min(12 * i, 60));
        }
    }

    // ---- paragraph 4 ----

    private static void yearsBounds() {
        says("YEARS by a seed: n (1 .. 40) times");
        TileLights x = scene(TWO + cover(5, 7, 8));
        for (int n : new int[] {0, -1, 41, 42, Bounds.MIN, Bounds.MAX}) due("years(" + n + ", 1)", x.years(n, 1L), NONE);
        due("nothing was done", x.count(4) + x.status(0) + x.status(1) + x.status(2), 0);
        for (int n : new int[] {1, 2, 39, 40}) {
            for (long seed : new long[] {0L, 1L, 2L, -1L, Long.MIN_VALUE, Long.MAX_VALUE}) {
                TileLights a = scene(TWO + cover(5, 7, 8));
                TileLights b = scene(TWO + cover(5, 7, 8));
                int acts = byHand(b, n, seed, 1, 1);
                due("years(" + n + ", " + seed + ")", a.years(n, seed), b.most(0));
                due("ACTS", a.count(5), acts);
                due("all is so by hand", Bounds.digest(a), Bounds.digest(b));
            }
        }
        due("no SCENE", new TileLights().years(1, 1L), NONE);
    }

    /** What the document says of YEARS, by whole numbers without an end that are cut to 64 bits: how many were ACTS. */
    private static int byHand(TileLights y, int n, long seed, int triangles, int tiles) {
        BigInteger[] x = {BigInteger.valueOf(seed).mod(ROUND)};
        int acts = 0;
        for (int i = 0; i < n; i++) {
            int refused = y.status(0) + y.status(1) + y.status(2) + y.status(3);
            int sort = draw(x, 8);
            if (sort <= 4) y.draw(draw(x, triangles));
            else if (sort == 5) y.flush(draw(x, tiles));
            else if (sort == 6) y.set(2, 1 - y.rule(7));
            else y.move(draw(x, triangles), draw(x, 3), draw(x, 9) - 4, draw(x, 9) - 4);
            if (y.status(0) + y.status(1) + y.status(2) + y.status(3) == refused) acts++;
        }
        return acts;
    }

    private static int draw(BigInteger[] x, int j) {
        x[0] = x[0].multiply(new BigInteger("6364136223846793005")).add(new BigInteger("1442695040888963407")).mod(ROUND);
        return x[0].shiftRight(33).mod(BigInteger.valueOf(j)).intValue();
    }

    private static void yearsSorts() {
        says("a draw of 8: 0 to 4: a TRIANGLE is DRAWN; 5: a TILE is FLUSHED; 6: late is changed about; 7: a CORNER is MOVED by the third less 4 across, by the fourth less 4 down");
        String text = "size 4,2;tile 2;" + cover(9, 7, 8) + ";" + cover(8, 8, 8) + ";" + cover(7, 9, 8);
        boolean[] seen = new boolean[8];
        boolean[] moves = new boolean[18];
        for (long seed = 0; seed < 400; seed++) {
            BigInteger[] x = {BigInteger.valueOf(seed)};
            int sort = draw(x, 8);
            TileLights y = scene(text);
            y.draw(0);
            y.set(1, 1);
            seen[sort] = true;
            y.years(1, seed);
            if (sort <= 4) {
                int t = draw(x, 3);
                due("DRAWN by seed " + seed, y.log(0, 0) * 10 + y.log(0, 1), t);
                due("in its BIN", y.bin(0, 1), t);
            } else if (sort == 5) {
                int tile = draw(x, 2);
                due("FLUSHED by seed " + seed, y.log(0, 0) * 10 + y.log(0, 1), 10 + tile);
                due("its BIN", y.tile(tile, 0) * 10 + y.tile(1 - tile, 0), 1);
            } else if (sort == 6) {
                due("late by seed " + seed, y.log(0, 0) * 10 + y.log(0, 1), 42);
                due("changed about", y.rule(7), 0);
            } else {
                int t = draw(x, 3);
                int corner = draw(x, 3);
                int across = draw(x, 9) - 4;
                int down = draw(x, 9) - 4;
                boolean may = t > 0 && (across != 0 || down != 0);
                moves[across + 4] = true;
                moves[down + 13] = true;
                due("MOVED by seed " + seed, y.count(4), may ? 3 : 2);
                due("x", y.corner(t, corner, 0), (corner == 1 ? 99 : -9) + (may ? across : 0));
                due("y", y.corner(t, corner, 1), (corner == 2 ? 99 : -9) + (may ? down : 0));
            }
            due("no STATUS", y.status(0) + y.status(1) + y.status(2) + y.status(3), 0);
        }
        for (int i = 0; i < 8; i++) due("a seed for " + i, seen[i] ? 1 : 0, 1);
        for (int i = 0; i < 18; i++) due("a seed for a move " + i, moves[i] ? 1 : 0, 1);
    }

    private static void yearsThatCantBe() {
        says("Each is an ACT; what can't be is left (no STATUS)");
        // Nothing can be DRAWN, so no BIN is ever filled: late and moves alone are ACTS; at its bounds some moves can't be.
        String text = "size 4,2;tile 2;flat -99,-99,0,-99,-99,0,-99,-99,0,7,8;flat 160,160,0,160,160,0,160,160,0,7,8";
        for (long seed = 1; seed <= 20; seed++) {
            TileLights a = scene(text);
            TileLights b = scene(text);
            int acts = byHand(b, 40, seed, 2, 2);
            due("years(40, " + seed + ")", a.years(40, seed), b.most(0));
            due("ACTS", a.count(5) * 100 + a.count(4), acts * 101L);
            due("no STATUS", a.status(0) + a.status(1) + a.status(2) + a.status(3), 0);
            due("some can't be", acts < 40 ? 1 : 0, 1);
            due("all is so by hand", Bounds.digest(a), Bounds.digest(b));
            for (int i = acts - 1; i >= 0; i--) due("UNDONE", a.undo(), i);
        }
    }

    private static void yearsRound() {
        says("x, at first the seed (64 bits, going round); shifted right by 33, without sign");
        String text = "size 4,4;tile 2;room 2;" + cover(9, 70, 8) + ";" + cover(8, 80, 5) + ";deep 0,0,1,32,0,99,0,32,50,99,8";
        for (int i = 0; i < 64; i++) {
            long seed = i % 2 == 0 ? 1L << i : -(1L << i) - 1;
            TileLights a = scene(text);
            TileLights b = scene(text);
            int acts = byHand(b, 40, seed, 3, 4);
            due("years(40, " + seed + ")", a.years(40, seed), b.most(0));
            due("ACTS", a.count(4), acts);
            due("all is so by hand", Bounds.digest(a), Bounds.digest(b));
        }
        says("each call begins with its seed anew");
        TileLights a = scene(text);
        TileLights b = scene(text);
        a.years(3, 77L);
        a.years(5, 77L);
        byHand(b, 3, 77L, 3, 4);
        byHand(b, 5, 77L, 3, 4);
        due("all is so by hand", Bounds.digest(a), Bounds.digest(b));
    }

    private static void image() {
        says("An IMAGE (instead of the one ahead): how many pairs are SHADED. NONE: no SCENE");
        TileLights none = new TileLights();
        due("no SCENE", none.image(), NONE);
        due("and no IMAGE", none.back(), NONE);
        due("no STATUS", none.status(0), 0);
        TileLights x = scene(TWO + cover(5, 7, 8));
        due("none are SHADED", x.image(), 0);
        x.draw(0);
        due("none yet", x.image(), 0);
        x.all();
        due("four", x.image(), 4);
        x.clear();
        due("back to the latest", x.back(), 4);
        due("COLOR", x.pixel(1, 1), 7);
        says("an IMAGE is no ACT");
        due("nothing to be UNDONE", x.count(5), 0);
        x.draw(0);
        x.image();
        due("undo", x.undo(), 0);
        due("the IMAGE is left", x.back(), 4);
        due("with its BIN", x.tile(0, 0), 1);
    }

    private static void back() {
        says("BACK: SAMPLES, BINS, CORNERS, what was SHADED and counted, rules, the LOG are so again (no ACT can be UNDONE then)");
        String text = "size 4,2;tile 2;many 2;room 2;" + cover(5, 7, 8) + ";" + cover(6, 9, 4) + ";" + Bounds.point(2, 2, 1, 50, 8);
        TileLights x = scene(text);
        for (int i = 0; i < 7; i++) x.draw(i % 3);
        x.set(0, 1);
        x.move(2, 1, 3, 4);
        x.set(0, 0);
        x.flush(1);
        x.draw(1);
        x.image();
        TileLights y = scene(text);
        for (int i = 0; i < 7; i++) y.draw(i % 3);
        y.set(0, 1);
        y.move(2, 1, 3, 4);
        y.set(0, 0);
        y.flush(1);
        y.draw(1);
        y.image();
        y.back();
        x.clear();
        x.set(1, 1);
        x.set(2, 0);
        x.set(3, 7);
        x.set(0, 2);
        x.move(0, 0, 1, 1);
        x.years(40, 3L);
        due("back()", x.back(), y.most(0));
        due("all is so again", Bounds.digest(x), Bounds.digest(y));
        due("count(5)", x.count(5), 0);
        due("undo()", x.undo(), NONE);
        due("what it COVERS is so again", x.triangle(2, 9) * 100 + x.triangle(0, 9), y.triangle(2, 9) * 100 + y.triangle(0, 9));
        due("as often as it is asked", x.back(), y.most(0));
        x.draw(0);
        due("ACTS from there can be UNDONE", x.undo(), 0);
        says("STATUS, SCRIPTS and the TAPE are no part of an IMAGE");
        TileLights z = scene(TWO + cover(5, 7, 8));
        z.image();
        z.draw(4);
        Bounds.tell(z, "all", 1);
        Bounds.feed(z, "abc");
        z.back();
        due("as they were", z.status(0) * 100 + z.count(1) * 10 + z.count(2), 113);
        says("NONE: no IMAGE of this SCENE");
        TileLights w = scene(TWO + cover(5, 7, 8));
        due("none yet", w.back(), NONE);
        w.image();
        due("a TEXT with a FAULT leaves it", Bounds.tell(w, "x", 0), NONE);
        due("it is there", w.back(), 0);
        Bounds.tell(w, "all", 1);
        due("a SCRIPT leaves it", w.back(), 0);
        Bounds.tell(w, TWO + cover(5, 7, 8), 0);
        due("gone with the SCENE, though alike", w.back(), NONE);
        due("and stays so", w.draw(0) + w.back(), 0);
        says("a LOG of 60 is so again");
        TileLights v = scene(TWO + cover(5, 7, 8));
        v.draw(0);
        for (int i = 0; i < 59; i++) v.clear();
        v.image();
        for (int i = 0; i < 70; i++) v.all();
        v.back();
        due("the LOG", v.count(4) * 100 + v.log(0, 0) * 10 + v.log(59, 0), 6030);
    }

    // All three CORNERS lie elsewhere, across and down: nothing of a TRIANGLE as it was may be taken for what it is now.
    private static void allCornersMoved() {
        String text = "size 4,4;tile 2;deep 0,0,100,16,0,200,0,16,300,250,8;flat 30,30,1,31,30,1,30,31,1,9,8";
        int[][] moves = {{0, 0, 5, 5}, {0, 1, 4, 3}, {0, 2, 2, 4}};
        TileLights first = scene(text);
        says("RUN is apart: CORNERS are as they were");
        TileLights ran = scene(text);
        Bounds.tell(ran, "move 0,0,5,5;move 0,1,4,3;move 0,2,2,4", 1);
        due("run(0, 0)", ran.run(0, 0), NONE);
        likeFirst(ran, first);
        says("BACK: CORNERS are so again");
        TileLights back = scene(text);
        back.image();
        for (int[] m : moves) back.move(m[0], m[1], m[2], m[3]);
        due("AREA then", back.triangle(0, 0), (20 - 5) * (20 - 5) - (3 - 5) * (2 - 5));
        due("back()", back.back(), 0);
        likeFirst(back, first);
        says("another SCENE: CORNERS are as its TEXT tells");
        TileLights other = scene(text);
        for (int[] m : moves) other.move(m[0], m[1], m[2], m[3]);
        due("text(0)", Bounds.tell(other, text, 0), 2);
        likeFirst(other, first);
        says("UNDONE one by one: CORNERS are as they were");
        TileLights undone = scene(text);
        for (int[] m : moves) undone.move(m[0], m[1], m[2], m[3]);
        for (int i = 2; i >= 0; i--) due("undo()", undone.undo(), i);
        likeFirst(undone, first);
    }

    private static void likeFirst(TileLights x, TileLights first) {
        for (int what = 0; what <= 9; what++) due("triangle(0, " + what + ")", x.triangle(0, what), first.triangle(0, what));
        for (int e = 0; e < 3; e++) due("edge(0, " + e + ", 3, 4)", x.edge(0, e, 3, 4), first.edge(0, e, 3, 4));
        for (int i = 0; i < 9; i++) {
            int px = i % 3;
            int py = i / 3;
            due("mask(0, " + px + ", " + py + ")", x.mask(0, px, py), first.mask(0, px, py));
            due("depth(0, " + px + ", " + py + ", 0)", x.depth(0, px, py, 0), first.depth(0, px, py, 0));
            due("shade(0, " + px + ", " + py + ")", x.shade(0, px, py), first.shade(0, px, py));
            due("whole(" + px + ", " + py + ")", x.whole(px, py), first.whole(px, py));
        }
    }

    private static void most() {
        says("most: HIDDEN: no SCENE, no such what");
        TileLights x = scene(TWO + cover(5, 7, 8));
        for (int what : new int[] {-1, 10, Bounds.MIN, Bounds.MAX}) due("most(" + what + ")", x.most(what), HIDDEN);
        for (int what = -1; what <= 10; what++) due("no SCENE: most(" + what + ")", new TileLights().most(what), HIDDEN);
        int[] first = {0, 0, 0, 0, 0, 0, 0, 0, 0, 0};
        for (int what = 0; what <= 9; what++) due("most(" + what + ") of a new SCENE", x.most(what), first[what]);
        says("the TILE with most in its BIN (8; of several the lowest)");
        TileLights y = scene("tile 2;room 3;" + Bounds.point(60, 60, 5, 7, 8) + ";" + Bounds.point(4, 60, 5, 7, 8) + ";" + Bounds.point(60, 4, 5, 7, 8));
        y.draw(0);
        due("TILE 15", y.most(8), 15);
        y.draw(1);
        due("as many in 12", y.most(8), 12);
        y.draw(2);
        due("as many in 3", y.most(8), 3);
        y.draw(0);
        due("more in 15", y.most(8), 15);
        y.flush(15);
        due("3 again", y.most(8), 3);
        y.all();
        due("none: the lowest", y.most(8), 0);
        says("CULLED ones (7, bits), TRIANGLES in any BIN (9, bits): ten of them");
        StringBuilder text = new StringBuilder(ONE + cover(5, 7, 8));
        for (int i = 1; i < 10; i++) text.append(';').append(cover(5, 7, 8));
        TileLights z = scene(text.toString());
        for (int t = 0; t < 10; t++) z.draw(t);
        due("in BINS", z.most(9), 1023);
        due("CULLED", z.most(7), 0);
        z.set(0, 2);
        due("CULLED", z.most(7), 1023);
        due("in BINS still", z.most(9), 1023);
        due("FLUSHED: all ten", z.flush(0), 10);
        due("none COVERS, none is behind", z.most(0) + z.most(1) + z.most(2), 0);
        due("one FLUSH laid them", z.most(3), 1);
    }

    private static void count() {
        says("count: HIDDEN for others");
        TileLights x = new TileLights();
        for (int what = 0; what <= 5; what++) due("of a new object: count(" + what + ")", x.count(what), 0);
        for (int what : new int[] {-1, 6, Bounds.MIN, Bounds.MAX}) due("count(" + what + ")", x.count(what), HIDDEN);
        StringBuilder text = new StringBuilder("tile2");
        for (int i = 0; i < 10; i++) text.append(';').append(Bounds.point(4, 4, 5, 7, 8));
        due("ten TRIANGLES", Bounds.tell(x, text.toString(), 0), 10);
        for (int i = 0; i < 4; i++) Bounds.tell(x, "all", 1);
        Bounds.feed(x, " ".repeat(480));
        for (int i = 0; i < 61; i++) x.all();
        int[] full = {10, 4, 480, 16, 60, 40};
        for (int what = 0; what <= 5; what++) due("full: count(" + what + ")", x.count(what), full[what]);
        for (int what : new int[] {-1, 6, Bounds.MIN, Bounds.MAX}) due("count(" + what + ")", x.count(what), HIDDEN);
    }
}
