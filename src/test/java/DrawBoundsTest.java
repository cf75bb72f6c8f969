/** Paragraph 2 of the document, sentence by sentence: what lies on a border, BINS, what PASSES, what is SHADED, ACTS, STATUS, the LOG. */
public final class DrawBoundsTest {
    private static final int NONE = Bounds.NONE;
    private static final int HIDDEN = Bounds.HIDDEN;
    // SAMPLES of one, two, four: x and y in eighths.
    private static final int[][] LIE = {{4, 4}, {2, 2, 6, 6}, {3, 1, 7, 3, 1, 5, 5, 7}};
    private static final String ONE = "size 1,1;tile 2;";

    public static void main(String[] args) {
        samplesLie();
        area();
        culled();
        turned();
        high();
        litOnce();
        covers();
        leastAndGreatest();
        depth();
        shade();
        tiles();
        touchesBox();
        touchesEdges();
        atFirst();
        farAndNear();
        roomOrMore();
        binInOrder();
        flushed();
        skipped();
        passes();
        opaque();
        blended();
        shadedSet();
        resolved();
        clear();
        rules();
        moved();
        undone();
        statusOfSeveral();
        statusCounts();
        log();
        Bounds.finish();
    }

    private static void says(String words) {
        Bounds.says(words);
    }

    private static void due(String call, long got, long want) {
        Bounds.due(call, got, want);
    }

    private static TileLights scene(String text) {
        return Bounds.scene(text);
    }

    private static String cover(int z, int color, int alpha) {
        return Bounds.cover("flat", z, color, alpha);
    }

    // ---- where things lie ----

    private static void samplesLie() {
        says("SAMPLES of a PIXEL lie: one at 4 4; two at 2 2, 6 6; four at 3 1, 7 3, 1 5, 5 7 (in this order from 0)");
        for (int many = 1; many <= 4; many *= 2) {
            int[] lie = LIE[many / 2];
            for (int k = 0; k < many; k++) {
                for (int pixel = 0; pixel < 2; pixel++) {
                    int x = pixel * 16 + lie[2 * k];
                    int y = pixel * 8 + lie[2 * k + 1];
                    TileLights at = scene("size 3,2;tile 2;many " + many + ";" + Bounds.point(x, y, 5, 9, 8));
                    due("mask of SAMPLE " + k + " of " + many, at.mask(0, pixel * 2, pixel), 1 << k);
                    due("no other", at.triangle(0, 9), 1);
                    due("its DEPTH", at.depth(0, pixel * 2, pixel, k), 5);
                    for (int[] by : new int[][] {{-1, 0}, {1, 0}, {0, -1}, {0, 1}}) {
                        TileLights beside = scene("size 3,2;tile 2;many " + many + ";" + Bounds.point(x + by[0], y + by[1], 5, 9, 8));
                        due("an eighth beside SAMPLE " + k + " of " + many, beside.triangle(0, 9), 0);
                    }
                }
            }
        }
        says("no such SAMPLE");
        for (int many = 1; many <= 4; many *= 2) {
            TileLights x = scene("size 1,1;many " + many + ";" + cover(5, 9, 8));
            due("the last", x.depth(0, 0, 0, many - 1), 5);
            due("one behind it", x.depth(0, 0, 0, many), NONE);
            due("sample(.., 0) of the last", x.sample(0, 0, many - 1, 0), 1000);
            due("sample(.., 0) of one behind it", x.sample(0, 0, many, 0), HIDDEN);
            due("layer of the last", x.layer(0, 0, many - 1, 0), 0);
            due("layer of one behind it", x.layer(0, 0, many, 0), NONE);
            due("all bits", x.mask(0, 0, 0), (1 << many) - 1);
        }
    }

    private static void area() {
        says("AREA of a TRIANGLE: SUM of the EDGE from its first CORNER to its second at its third");
        due("the greatest", scene("flat -99,-99,0,160,-99,0,-99,160,0,0,1").triangle(0, 0), 259 * 259);
        due("the least", scene("flat -99,-99,0,-99,160,0,160,-99,0,0,1").triangle(0, 0), -259 * 259);
        due("1", scene("flat 4,4,0,5,4,0,4,5,0,0,1").triangle(0, 0), 1);
        due("-1", scene("flat 4,4,0,4,5,0,5,4,0,0,1").triangle(0, 0), -1);
        due("0 on a slant", scene("flat -99,-99,0,0,0,0,160,160,0,0,1").triangle(0, 0), 0);
        due("0 in a point", scene("flat 7,7,0,7,7,0,7,7,0,0,1").triangle(0, 0), 0);
        due("0, two alike", scene("flat 7,7,0,9,1,0,7,7,0,0,1").triangle(0, 0), 0);
        says("SUM of an EDGE at a point x, y (-99 .. 160 each)");
        TileLights x = scene("flat -99,-99,0,160,-99,0,-99,160,0,0,1");
        due("EDGE 0 at the far corner", x.edge(0, 0, 160, 160), 259 * 259);
        due("EDGE 1 at the far corner", x.edge(0, 1, 160, 160), -259 * 259);
        due("EDGE 1 at the first CORNER", x.edge(0, 1, -99, -99), 259 * 259);
        due("EDGE 2 at the second", x.edge(0, 2, 160, -99), 259 * 259);
        int[][] beyond = {{-100, 0}, {161, 0}, {0, -100}, {0, 161}, {Bounds.MIN, 0}, {0, Bounds.MAX}};
        for (int[] at : beyond) due("edge(0, 0, " + at[0] + ", " + at[1] + ")", x.edge(0, 0, at[0], at[1]), HIDDEN);
    }

    private static void culled() {
        says("It is CULLED, if AREA is 0, or by cull 1 below 0, by 2 above 0");
        String text = "flat 4,4,0,5,4,0,4,5,0,7,8;flat 4,4,0,4,5,0,5,4,0,7,8;flat 4,4,0,5,5,0,6,6,0,7,8";
        int[] want = {4, 6, 5};
        for (int cull = 0; cull <= 2; cull++) {
            TileLights x = scene("cull " + cull + ";" + text);
            due("CULLED by cull " + cull, x.most(7), want[cull]);
            for (int t = 0; t < 3; t++) {
                boolean out = (want[cull] >> t & 1) != 0;
                due("triangle(.., 4)", x.triangle(t, 4), out ? 1 : 0);
                due("TOUCHES", x.triangle(t, 7), out ? 0 : 1);
                due("COVERS", x.triangle(t, 9), out ? 0 : 1);
                due("mask", x.mask(t, 0, 0), out ? 0 : 1);
                due("depth", x.depth(t, 0, 0, 0), out ? NONE : 0);
                due("shade: CULLED ones with an AREA, too", x.shade(t, 0, 0), t == 2 ? NONE : 7);
                due("edge is told all the same", x.edge(t, 0, 4, 4), 0);
                due("draw", x.draw(t), out ? NONE : 1);
            }
            due("STATUS 2", x.status(2), Integer.bitCount(want[cull]));
        }
    }

    private static void turned() {
        says("TURNED: with AREA below 0 the second and third CORNERS change places (what is told of it stays)");
        TileLights x = scene("flat 0,0,1,0,16,2,16,0,3,7,8;flat 0,0,1,16,0,3,0,16,2,7,8;flat 0,0,1,0,16,2,0,32,3,7,8");
        due("AREA stays", x.triangle(0, 0), -256);
        due("CORNERS stay", x.corner(0, 1, 1) * 100 + x.corner(0, 2, 0), 1616);
        due("z stay", x.corner(0, 1, 2) * 10 + x.corner(0, 2, 2), 23);
        for (int e = 0; e < 3; e++) due("EDGE " + e + " as TURNED", x.edge(0, e, 3, 5), x.edge(1, e, 3, 5));
        due("EDGE 0 goes to the third CORNER", x.edge(0, 0, 0, 1), 16);
        due("with AREA 0 it is not TURNED: EDGE 0 goes to the second", x.edge(2, 0, 1, 0), -16);
        due("and EDGE 2 from the third to the first", x.edge(2, 2, 1, 0), 32);
        for (int i = 0; i < 64; i++) due("DEPTH as TURNED", x.depth(0, i % 8, i / 8, 0), x.depth(1, i % 8, i / 8, 0));
    }

    private static void high() {
        says("An EDGE from a to b is HIGH, if both have one y and b's x is greater, or if b's y is less");
        // Each has an EDGE through the CENTRE 4 4 of PIXEL 0 0, the third CORNER is on the one or the other side.
        String[] lit = {"-12,4,0,20,4,0,4,30,0", "4,20,0,4,-12,0,30,4,0", "-12,20,0,20,-12,0,30,30,0", "20,20,0,-12,-12,0,30,-20,0"};
        String[] dark = {"20,4,0,-12,4,0,4,-30,0", "4,-12,0,4,20,0,-30,4,0", "20,-12,0,-12,20,0,-30,-30,0", "-12,-12,0,20,20,0,-30,20,0"};
        for (int i = 0; i < 4; i++) {
            TileLights x = scene("size 1,1;flat " + lit[i] + ",7,8;flat " + dark[i] + ",7,8");
            due("EDGE 0 goes through it", x.edge(0, 0, 4, 4), 0);
            due("EDGE 0 goes through it", x.edge(1, 0, 4, 4), 0);
            due("neither is TURNED", x.triangle(0, 0) > 0 && x.triangle(1, 0) > 0 ? 1 : 0, 1);
            due("HIGH " + i, x.mask(0, 0, 0), 1);
            due("not HIGH " + i, x.mask(1, 0, 0), 0);
        }
    }

    private static void litOnce() {
        says("what lies on a border is lit once");
        int[] ring = {4, 4, 12, 4, 20, 4, 20, 12, 20, 20, 12, 20, 4, 20, 4, 12};
        StringBuilder text = new StringBuilder("size 3,3");
        for (int i = 0; i < 8; i++) {
            int j = (i + 1) % 8;
            text.append(";flat12,12,0,").append(ring[2 * i]).append(',').append(ring[2 * i + 1]).append(",0,");
            text.append(ring[2 * j]).append(',').append(ring[2 * j + 1]).append(",0,9,8");
        }
        TileLights x = scene(text.toString());
        for (int t = 0; t < 8; t++) due("the CENTRE 12 12 by TRIANGLE " + t, x.mask(t, 1, 1), t == 3 ? 1 : 0);
        // Of the square from 4 4 to 20 20 the upper and the left border are lit, the lower and the right are not.
        for (int i = 0; i < 9; i++) {
            int times = 0;
            for (int t = 0; t < 8; t++) times += x.mask(t, i % 3, i / 3);
            due("PIXEL " + i % 3 + " " + i / 3 + ", how often lit", times, i % 3 < 2 && i / 3 < 2 ? 1 : 0);
        }
        says("a grid of TRIANGLES lights each SAMPLE once, whatever many is");
        for (int many = 1; many <= 4; many *= 2) {
            TileLights y = scene("size 4,4;many " + many + ";flat 0,0,0,32,0,0,19,17,0,1,8;flat 32,0,0,32,32,0,19,17,0,1,8;flat 32,32,0,0,32,0,19,17,0,1,8;flat 0,32,0,0,0,0,19,17,0,1,8");
            for (int i = 0; i < 16; i++) {
                int bits = 0;
                int added = 0;
                for (int t = 0; t < 4; t++) {
                    bits |= y.mask(t, i % 4, i / 4);
                    added += y.mask(t, i % 4, i / 4);
                }
                due("each SAMPLE", bits, (1 << many) - 1);
                due("once", added, bits);
            }
        }
    }

    private static void covers() {
        says("It COVERS a point, if at it SUM of each EDGE is above 0, or 0 with the EDGE HIGH");
        // Upright EDGES one eighth long: SUM at the CENTRE is -1, 0, 1 by where the EDGE lies.
        for (int by = -1; by <= 1; by++) {
            int at = 4 + by;
            TileLights left = scene("size 1,1;flat " + at + ",5,0," + at + ",4,0,40,4,0,7,8");
            due("SUM of the left EDGE", left.edge(0, 0, 4, 4), -by);
            due("left EDGE (HIGH) at " + at, left.mask(0, 0, 0), by <= 0 ? 1 : 0);
            TileLights right = scene("size 1,1;flat " + at + ",4,0," + at + ",5,0,-40,4,0,7,8");
            due("SUM of the right EDGE", right.edge(0, 0, 4, 4), by);
            due("right EDGE (not HIGH) at " + at, right.mask(0, 0, 0), by >= 1 ? 1 : 0);
            TileLights top = scene("size 1,1;flat 4," + at + ",0,5," + at + ",0,4,40,0,7,8");
            due("SUM of the upper EDGE", top.edge(0, 0, 4, 4), -by);
            due("upper EDGE (HIGH) at " + at, top.mask(0, 0, 0), by <= 0 ? 1 : 0);
            TileLights low = scene("size 1,1;flat 5," + at + ",0,4," + at + ",0,4,-40,0,7,8");
            due("SUM of the lower EDGE", low.edge(0, 0, 4, 4), by);
            due("lower EDGE (not HIGH) at " + at, low.mask(0, 0, 0), by >= 1 ? 1 : 0);
        }
        says("a CORNER is on two EDGES: both must be HIGH");
        String[] three = {"4,4,0,5,4,0,4,5,0", "5,4,0,4,5,0,4,4,0", "4,5,0,4,4,0,5,4,0", "4,4,0,4,5,0,3,4,0", "4,4,0,3,4,0,4,3,0", "4,4,0,4,3,0,5,4,0"};
        int[] lit = {1, 1, 1, 0, 0, 0};
        for (int i = 0; i < 6; i++) {
            TileLights x = scene("size 1,1;flat " + three[i] + ",7,8");
            due("AREA", x.triangle(0, 0), 1);
            due("CORNER at 4 4 of " + three[i], x.mask(0, 0, 0), lit[i]);
        }
    }

    private static void leastAndGreatest() {
        says("5 its least z, 6 its greatest z");
        String[] orders = {"ABC", "ACB", "BAC", "BCA", "CAB", "CBA"};
        for (String order : orders) {
            for (int turned = 0; turned <= 1; turned++) {
                String at = turned == 0 ? "0,0,%s,8,0,%s,0,8,%s" : "0,0,%s,0,8,%s,8,0,%s";
                String[] z = new String[3];
                for (int i = 0; i < 3; i++) z[i] = order.charAt(i) == 'A' ? "0" : order.charAt(i) == 'B' ? "500" : "999";
                TileLights x = scene("flat " + String.format(at, z[0], z[1], z[2]) + ",7,8");
                due("least z of " + order, x.triangle(0, 5), 0);
                due("greatest z of " + order, x.triangle(0, 6), 999);
            }
        }
        says("Of a CORNER (0 .. 2, as told): 0 x, 1 y, 2 z, of each TRIANGLE");
        StringBuilder text = new StringBuilder();
        for (int t = 0; t < 10; t++) {
            text.append(t > 0 ? ";flat" : "flat");
            for (int i = 0; i < 9; i++) text.append(t * 9 + i).append(',');
            text.append(t).append(',').append(1 + t % 8);
        }
        TileLights x = scene(text.toString());
        for (int t = 0; t < 10; t++) {
            for (int i = 0; i < 9; i++) due("corner(" + t + ", " + i / 3 + ", " + i % 3 + ")", x.corner(t, i / 3, i % 3), t * 9L + i);
            due("COLOR and ALPHA", x.triangle(t, 2) * 10 + x.triangle(t, 1), t * 10 + 1 + t % 8);
        }
        for (int t : new int[] {-1, 10, Bounds.MIN, Bounds.MAX}) due("corner(" + t + ", 0, 0)", x.corner(t, 0, 0), HIDDEN);
        for (int bad : new int[] {-1, 3, Bounds.MIN, Bounds.MAX}) {
            due("corner(9, " + bad + ", 0)", x.corner(9, bad, 0), HIDDEN);
            due("corner(9, 0, " + bad + ")", x.corner(9, 0, bad), HIDDEN);
            due("edge(9, " + bad + ", 0, 0)", x.edge(9, bad, 0, 0), HIDDEN);
            due("edge of no such one", x.edge(bad == 3 ? 10 : bad, 0, 0, 0), HIDDEN);
        }
        for (int what : new int[] {-1, 12, Bounds.MIN, Bounds.MAX}) due("triangle(9, " + what + ") throws", Bounds.answer(y -> y.triangle(9, what), x), Bounds.THROWS);
        for (int t : new int[] {-1, 10, Bounds.MIN, Bounds.MAX}) due("triangle(" + t + ", 0) throws", Bounds.answer(y -> y.triangle(t, 0), x), Bounds.THROWS);
        due("triangle(9, 11)", x.triangle(9, 11), 0);
    }

    private static void depth() {
        says("DEPTH of it at a point: z of its first CORNER times SUM of EDGE 1, of the second times EDGE 2, of the third times EDGE 0");
        String[] order = {"4,4,A,5,4,B,4,5,C", "4,4,A,4,5,C,5,4,B", "5,4,B,4,5,C,4,4,A", "4,5,C,5,4,B,4,4,A", "4,5,C,4,4,A,5,4,B", "5,4,B,4,4,A,4,5,C"};
        for (String told : order) {
            String z = told.replace("A", "70").replace("B", "500").replace("C", "900");
            due("at the CORNER with 70 of " + told, scene("size 1,1;flat " + z + ",7,8").depth(0, 0, 0, 0), 70);
        }
        due("z 0", scene("size 1,1;" + cover(0, 7, 8)).depth(0, 0, 0, 0), 0);
        due("z 999", scene("size 1,1;" + cover(999, 7, 8)).depth(0, 0, 0, 0), 999);
        due("the largest TRIANGLE", scene("size 1,1;flat -99,-99,999,160,-99,999,-99,160,999,7,8").depth(0, 0, 0, 0), 999);
        due("the largest, TURNED", scene("size 1,1;flat -99,-99,999,-99,160,999,160,-99,999,7,8").depth(0, 0, 0, 0), 999);
        says("by the size of AREA, down to the whole number not above it");
        // From 0 at the left to 8 at the right of 16 eighths: at 4 it is 2, at 12 it is 6; from 1 it is 2.75 and 6.25.
        TileLights x = scene("size 2,1;flat 0,0,0,16,0,8,0,64,0,7,8;flat 0,0,1,16,0,8,0,64,1,7,8;flat 0,0,1,0,64,1,16,0,8,7,8;flat 0,0,1,16,0,0,0,64,1,7,8");
        due("whole", x.depth(0, 0, 0, 0) * 10 + x.depth(0, 1, 0, 0), 26);
        due("down", x.depth(1, 0, 0, 0) * 10 + x.depth(1, 1, 0, 0), 26);
        due("down, as TURNED", x.depth(2, 0, 0, 0) * 10 + x.depth(2, 1, 0, 0), 26);
        due("three quarters and a quarter are 0", x.depth(3, 0, 0, 0) * 10 + x.depth(3, 1, 0, 0), 0);
        due("NONE: it COVERS it not", scene("size 2,1;" + Bounds.point(4, 4, 9, 7, 8)).depth(0, 1, 0, 0), NONE);
    }

    private static void shade() {
        says("check: COLOR, if X and Y added up are even, else 255 less COLOR");
        TileLights x = scene("size 2,2;" + Bounds.cover("check", 5, 0, 8) + ";" + Bounds.cover("check", 5, 255, 8) + ";" + Bounds.cover("check", 5, 100, 8));
        for (int i = 0; i < 4; i++) {
            boolean even = (i % 2 + i / 2) % 2 == 0;
            due("of 0", x.shade(0, i % 2, i / 2), even ? 0 : 255);
            due("of 255", x.shade(1, i % 2, i / 2), even ? 255 : 0);
            due("of 100", x.shade(2, i % 2, i / 2), even ? 100 : 155);
        }
        says("rows: COLOR, if Y is even, else half of it, cut");
        x = scene("size 1,3;" + Bounds.cover("rows", 5, 0, 8) + ";" + Bounds.cover("rows", 5, 1, 8) + ";" + Bounds.cover("rows", 5, 255, 8) + ";" + Bounds.cover("rows", 5, 254, 8));
        int[] color = {0, 1, 255, 254};
        int[] half = {0, 0, 127, 127};
        for (int t = 0; t < 4; t++) {
            due("Y 0", x.shade(t, 0, 0), color[t]);
            due("Y 1", x.shade(t, 0, 1), half[t]);
            due("Y 2", x.shade(t, 0, 2), color[t]);
        }
        says("deep: COLOR less a quarter of its DEPTH at the CENTRE, that quarter down to the whole number not above it");
        int[][] level = {{0, 100, 100}, {3, 100, 100}, {4, 100, 99}, {7, 100, 99}, {8, 100, 98}, {999, 249, 0}, {999, 250, 1}, {999, 255, 6}};
        for (int[] l : level) due("z " + l[0] + ", COLOR " + l[1], scene("size 1,1;" + Bounds.cover("deep", l[0], l[1], 8)).shade(0, 0, 0), l[2]);
        // DEPTH is a less x: at X 2 (x 20) -4 for 16 up to 0 for 20, at X 3 (x 28) -5 for 23.
        int[] below = {1, 1, 1, 1, 0};
        for (int a = 16; a <= 20; a++) due("DEPTH " + (a - 20), slant(a, 100).shade(0, 2, 0), 100 + below[a - 16]);
        due("DEPTH -4", slant(24, 100).shade(0, 3, 0), 101);
        due("DEPTH -5", slant(23, 100).shade(0, 3, 0), 102);
        due("covered or not", slant(23, 100).mask(0, 3, 0), 0);
        // 960 less 16 times y, and 16 times x: an eighth beside the CENTRE would be a SHADE of 4 more or less.
        TileLights steep = scene("size 2,3;deep 0,0,960,60,0,960,0,60,0,250,8;deep 0,0,0,60,0,960,0,60,0,250,8");
        for (int i = 0; i < 6; i++) {
            due("steep down", steep.shade(0, i % 2, i / 2), 250 - (960 - 16 * (i / 2 * 8 + 4)) / 4);
            due("steep across", steep.shade(1, i % 2, i / 2), 250 - 16 * (i % 2 * 8 + 4) / 4);
        }
        // DEPTH is 60 less y here: at the CENTRES 56, 48, 40.
        TileLights down = scene("size 1,3;deep 0,0,60,60,0,60,0,60,0,100,8");
        for (int y = 0; y < 3; y++) due("Y " + y, down.shade(0, 0, y), 100 - (60 - (8 * y + 4)) / 4);
        says("SHADE is held within 0 .. 255");
        due("0 by -1", scene("size 1,1;" + Bounds.cover("deep", 999, 248, 8)).shade(0, 0, 0), 0);
        due("0 by -249", scene("size 1,1;" + Bounds.cover("deep", 999, 0, 8)).shade(0, 0, 0), 0);
        due("254 and 1", slant(16, 254).shade(0, 2, 0), 255);
        due("255 and 1", slant(16, 255).shade(0, 2, 0), 255);
        due("254 and 2", slant(23, 254).shade(0, 3, 0), 255);
        due("far below: 0 less a quarter of 999 and some", scene("deep 0,0,999,1,0,0,0,1,999,255,8").shade(0, 0, 7), 255);
        due("far above", scene("deep 0,0,0,1,0,999,0,1,0,255,8").shade(0, 7, 0), 0);
        due("no such PIXEL", slant(16, 1).shade(0, 4, 0), NONE);
        due("the last PIXEL", slant(20, 1).shade(0, 3, 0), 3);
    }

    private static TileLights slant(int a, int color) {
        return scene("size 4,1;deep 0,0," + a + ",16,0," + (a - 16) + ",0,16," + a + "," + color + ",8");
    }

    private static void tiles() {
        says("TILES of tile times tile PIXELS are numbered from the left, from the top (those on the right and the lower border may be cut off)");
        for (int wide = 1; wide <= 8; wide++) {
            for (int high = 1; high <= 8; high++) {
                for (int size = 2; size <= 4; size++) tilesOf(wide, high, size);
            }
        }
    }

    private static void tilesOf(int wide, int high, int size) {
        int many = 1 << (wide + high) % 3;
        String ahead = "size " + wide + "," + high + ";tile " + size + ";many " + many + ";";
        TileLights x = scene(ahead + cover(5, 7, 8));
        int columns = (wide + size - 1) / size;
        int tiles = columns * ((high + size - 1) / size);
        due("rule(9) of " + ahead, x.rule(9), tiles);
        due("count(3) of " + ahead, x.count(3), tiles);
        int[] pixels = new int[tiles + 1];
        for (int i = 0; i < wide * high; i++) pixels[i / wide / size * columns + i % wide / size]++;
        for (int tile = 0; tile < tiles; tile++) due("PIXELS of TILE " + tile + " of " + ahead, x.tile(tile, 4), pixels[tile]);
        due("no such TILE", x.tile(tiles, 4), NONE);
        int[][] corners = {{0, 0}, {wide - 1, 0}, {0, high - 1}, {wide - 1, high - 1}};
        for (int[] c : corners) {
            int[] lie = LIE[many / 2];
            TileLights y = scene(ahead + Bounds.point(c[0] * 8 + lie[0], c[1] * 8 + lie[1], 5, 8, 8));
            int tile = c[1] / size * columns + c[0] / size;
            due("the TILE of PIXEL " + c[0] + " " + c[1] + " of " + ahead, y.triangle(0, 7), 1 << tile);
            due("DRAWN into it", y.draw(0) * 100 + y.tile(tile, 0), 101);
            due("FLUSHED", y.flush(tile), 1);
            due("it is lit", y.pixel(c[0], c[1]), 8 / many);
            due("its bit", y.shaded(0), 1L << (c[1] * 8 + c[0]));
        }
    }

    private static void touchesBox() {
        says("its least and greatest x are not both left or both right of the TILE (its left and its right border belong to it), likewise y");
        // A frame of 4 times 4 with TILES of 16 eighths: borders at 0, 16, 32.
        int[][] greatest = {{-1, 0}, {0, 1}, {15, 1}, {16, 3}, {17, 3}, {31, 2}, {32, 2}};
        for (int[] g : greatest) {
            // An upright EDGE on the right at x g, from 2 to 9 down; a level one below at y g.
            int column = touched("flat " + g[0] + ",2,0," + g[0] + ",9,0," + (g[0] - 5) + ",2,0,7,8");
            due("greatest x " + g[0], column & 3, g[1]);
            int row = touched("flat 9," + g[0] + ",0,2," + g[0] + ",0,2," + (g[0] - 5) + ",0,7,8");
            due("greatest y " + g[0], (row & 1) | (row & 4) >> 1, g[1]);
        }
        int[][] least = {{33, 0}, {32, 2}, {17, 2}, {16, 3}, {1, 1}, {0, 1}};
        for (int[] l : least) {
            due("least x " + l[0], touched("flat " + l[0] + ",2,0," + (l[0] + 5) + ",2,0," + l[0] + ",9,0,7,8") & 3, l[1]);
            int row = touched("flat 2," + l[0] + ",0,9," + l[0] + ",0,2," + (l[0] + 5) + ",0,7,8");
            due("least y " + l[0], (row & 1) | (row & 4) >> 1, l[1]);
        }
        due("on the corner of all four", touched("flat 16,16,0,17,16,0,16,17,0,7,8"), 15);
        due("an eighth right of it", touched("flat 17,16,0,18,16,0,17,17,0,7,8"), 10);
        due("an eighth below it", touched("flat 16,17,0,17,17,0,16,18,0,7,8"), 12);
        due("an eighth from both", touched("flat 17,17,0,18,17,0,17,18,0,7,8"), 8);
        due("the corner of the frame", touched("flat 32,32,0,33,32,0,32,33,0,7,8"), 8);
        due("an eighth behind it", touched("flat 33,32,0,34,32,0,33,33,0,7,8"), 0);
        due("all, far beyond", touched("flat -99,-99,0,160,-99,0,-99,160,0,7,8"), 15);
        says("TILES it TOUCHES, of them those in which it COVERS no SAMPLE");
        TileLights x = scene("size 4,4;tile 2;flat 12,4,0,16,4,0,12,8,0,7,8;flat 16,4,0,20,4,0,16,8,0,7,8");
        due("TILES 0 and 1", x.triangle(0, 7) * 10 + x.triangle(1, 7), 33);
        due("in vain TILE 1, and both: 20 4 is its far CORNER", x.triangle(0, 8) * 10 + x.triangle(1, 8), 23);
        TileLights next = scene("size 4,4;tile 2;flat 16,4,0,24,4,0,16,12,0,7,8;flat 4,16,0,12,16,0,4,24,0,7,8");
        due("in vain TILE 0, not the one behind it", next.triangle(0, 7) * 10 + next.triangle(0, 8), 31);
        due("in vain TILE 0, not the one below it", next.triangle(1, 7) * 10 + next.triangle(1, 8), 51);
    }

    private static int touched(String triangle) {
        return scene("size 4,4;tile 2;" + triangle).triangle(0, 7);
    }

    private static void touchesEdges() {
        says("and no EDGE has a SUM below 0 at all four corners of the TILE");
        // The long EDGE of a half square of n: SUM at 16 16 is n times (n less 32).
        due("31: below 0 at all corners of TILE 3", touched("flat 0,0,0,31,0,0,0,31,0,7,8"), 7);
        due("32: it is 0 at one", touched("flat 0,0,0,32,0,0,0,32,0,7,8"), 15);
        due("31 from the other side", touched("flat 32,32,0,1,32,0,32,1,0,7,8"), 14);
        due("32 from the other side", touched("flat 32,32,0,0,32,0,32,0,0,7,8"), 15);
        due("from the upper right", touched("flat 32,0,0,32,31,0,1,0,0,7,8"), 11);
        due("0 at a corner of TILE 2", touched("flat 32,0,0,32,32,0,0,0,0,7,8"), 15);
        due("from the lower left", touched("flat 0,32,0,0,1,0,31,32,0,7,8"), 13);
        due("0 at a corner of TILE 1", touched("flat 0,32,0,0,0,0,32,32,0,7,8"), 15);
        says("no EDGE, whichever of the three it is");
        int[][] halves = {{0, 0, 31, 0, 0, 31, 7}, {0, 0, 32, 0, 0, 32, 15}, {32, 32, 1, 32, 32, 1, 14}, {32, 0, 32, 31, 1, 0, 11}, {0, 32, 0, 1, 31, 32, 13}};
        for (int[] h : halves) {
            for (int turn = 0; turn < 3; turn++) {
                for (int way = 1; way <= 2; way++) {
                    StringBuilder told = new StringBuilder("flat ");
                    for (int i = 0; i < 3; i++) told.append(h[(turn + way * i) % 3 * 2]).append(',').append(h[(turn + way * i) % 3 * 2 + 1]).append(",0,");
                    due("TILES of " + told, touched(told + "7,8"), h[6]);
                }
            }
        }
        says("a TILE that is cut off has its corners where the frame ends");
        // A frame of 3 times 3: TILE 3 is one PIXEL, from 16 to 24.
        TileLights x = scene("size 3,3;tile 2;flat 24,2,0,30,2,0,24,9,0,7,8;flat 25,2,0,30,2,0,25,9,0,7,8;flat 2,24,0,9,24,0,2,30,0,7,8;flat 2,25,0,9,25,0,2,30,0,7,8");
        due("at the right border", x.triangle(0, 7), 2);
        due("an eighth behind it", x.triangle(1, 7), 0);
        due("at the lower border", x.triangle(2, 7), 4);
        due("an eighth below it", x.triangle(3, 7), 0);
    }

    // ---- BINS, FLUSHES ----

    private static void atFirst() {
        says("Each SAMPLE has a DEPTH (1000 at first), a COLOR (back at first) and perhaps a PENDING TRIANGLE");
        for (int back : new int[] {0, 1, 255}) {
            TileLights x = scene("size 8,8;many 4;back " + back + ";" + cover(5, 7, 8));
            for (int[] at : new int[][] {{0, 0, 0}, {7, 7, 3}, {7, 0, 1}, {0, 7, 2}}) {
                due("DEPTH", x.sample(at[0], at[1], at[2], 0), 1000);
                due("COLOR", x.sample(at[0], at[1], at[2], 1), back);
                due("PENDING", x.sample(at[0], at[1], at[2], 2), NONE);
                due("no such what", x.sample(at[0], at[1], at[2], 3), HIDDEN);
            }
            due("pixel", x.pixel(7, 7), back);
            due("FAR and NEAR", x.tile(0, 1) + x.tile(3, 2), 2000);
        }
    }

    private static void farAndNear() {
        says("FAR, NEAR of a TILE: the greatest, the least DEPTH in it");
        TileLights x = scene("size 4,2;tile 2;" + Bounds.point(12, 12, 0, 7, 8) + ";" + cover(999, 9, 8));
        x.draw(0);
        x.all();
        due("one SAMPLE of TILE 0", x.tile(0, 1) * 10000L + x.tile(0, 2), 10000000);
        due("none of TILE 1", x.tile(1, 1) * 10000L + x.tile(1, 2), 10001000);
        x.draw(1);
        due("not FLUSHED yet", x.tile(1, 1), 1000);
        x.all();
        due("TILE 0", x.tile(0, 1) * 10000L + x.tile(0, 2), 9990000);
        due("TILE 1", x.tile(1, 1) * 10000L + x.tile(1, 2), 9990999);
        says("a DEPTH of 0 is the least there is");
        TileLights zero = scene("size 2,1;tile 2;" + cover(0, 7, 8) + ";" + cover(0, 9, 8));
        zero.draw(0);
        zero.draw(1);
        zero.all();
        due("FAR and NEAR", zero.tile(0, 1) * 10 + zero.tile(0, 2), 0);
        due("as far is behind", zero.most(1), 1);
        zero.set(1, 1);
        zero.draw(1);
        zero.all();
        due("by test 1 it is not", zero.most(1) * 10 + zero.pixel(0, 0), 19);
        says("a TILE that is cut off: only what is in the frame counts");
        TileLights y = scene("size 3,1;tile 2;" + cover(5, 7, 8));
        y.draw(0);
        y.all();
        due("FAR of TILE 1", y.tile(1, 1), 5);
    }

    private static void roomOrMore() {
        says("has its BIN room or more in it, that TILE is FLUSHED first; then it comes to the end of the BIN");
        for (int room = 1; room <= 10; room++) {
            TileLights x = scene(ONE + "room " + room + ";" + cover(5, 7, 8));
            for (int i = 1; i <= room; i++) {
                due("draw " + i + " by room " + room, x.draw(0), 1);
                due("in the BIN", x.tile(0, 0), i);
                due("not FLUSHED", x.most(3) + x.pixel(0, 0), 0);
            }
            due("one more", x.draw(0), 1);
            due("alone in the BIN", x.tile(0, 0) * 10 + x.bin(0, 0), 10);
            due("FLUSHED once", x.most(3), 1);
            due("it is lit", x.pixel(0, 0), 7);
            due("one in BINS", x.triangle(0, 11), 1);
            due("behind it none", x.bin(0, 1), NONE);
        }
        says("or more in it: room was made less");
        TileLights x = scene(ONE + "room 10;" + cover(5, 7, 8) + ";" + cover(3, 9, 8));
        for (int i = 0; i < 10; i++) x.draw(i % 2);
        due("set(3, 4)", x.set(3, 4), 10);
        due("ten are in it all the same", x.tile(0, 0), 10);
        due("the tenth", x.bin(0, 9), 1);
        due("no eleventh", x.bin(0, 10), NONE);
        due("draw", x.draw(0), 1);
        due("FLUSHED first", x.tile(0, 0) * 100 + x.pixel(0, 0), 109);
        for (int i = 0; i < 3; i++) x.draw(0);
        due("four by room 4", x.tile(0, 0) * 10 + x.most(3), 41);
        x.set(3, 5);
        x.draw(0);
        due("five by room 5", x.tile(0, 0) * 10 + x.most(3), 51);
        x.draw(0);
        due("FLUSHED", x.tile(0, 0) * 10 + x.most(3), 12);
        says("only the TILES with a full BIN are FLUSHED");
        TileLights y = scene("size 4,2;tile 2;room 1;" + Bounds.point(4, 4, 5, 7, 8) + ";" + cover(9, 8, 8));
        y.draw(0);
        due("draw(1)", y.draw(1), 2);
        due("BINS", y.bin(0, 0) * 10 + y.bin(1, 0), 11);
        due("FLUSHES", y.most(3), 1);
        due("TILE 0 is lit", y.pixel(0, 0), 7);
    }

    private static void binInOrder() {
        says("Each TILE has a BIN: TRIANGLES in order. (It may be in a BIN more than once.)");
        TileLights x = scene("size 4,2;tile 2;" + Bounds.point(4, 4, 5, 7, 8) + ";" + cover(9, 8, 8) + ";" + Bounds.point(28, 4, 5, 7, 8));
        int[] drawn = {1, 0, 2, 1, 1, 0};
        int[] comes = {2, 1, 1, 2, 2, 1};
        for (int i = 0; i < 6; i++) due("into how many BINS", x.draw(drawn[i]), comes[i]);
        int[] first = {1, 0, 1, 1, 0, NONE};
        int[] second = {1, 2, 1, 1, NONE};
        for (int i = 0; i < first.length; i++) due("bin(0, " + i + ")", x.bin(0, i), first[i]);
        for (int i = 0; i < second.length; i++) due("bin(1, " + i + ")", x.bin(1, i), second[i]);
        due("how often in BINS", x.triangle(0, 11) * 100 + x.triangle(1, 11) * 10 + x.triangle(2, 11), 261);
        due("TRIANGLES in any BIN", x.most(9), 7);
        due("the TILE with most", x.most(8), 0);
        due("FLUSH: how many were in the BIN", x.flush(0), 5);
        due("empty", x.tile(0, 0) + x.bin(0, 0), NONE);
        due("the TILE with most", x.most(8), 1);
        due("TRIANGLES in any BIN", x.most(9), 6);
        due("CLEAR: how many there were in BINS", x.clear(), 4);
        due("none", x.most(9), 0);
    }

    private static void flushed() {
        says("To FLUSH a TILE: each of the BIN, in order, is LAID, the BIN is empty; then what is PENDING is SHADED");
        TileLights x = scene(ONE + cover(5, 7, 8));
        x.draw(0);
        due("flush(0)", x.flush(0), 1);
        due("none is PENDING", x.sample(0, 0, 0, 2), NONE);
        due("none is PENDING", x.tile(0, 3) + x.most(4), 0);
        due("NONE: its BIN is empty and none is PENDING in it", x.flush(0), NONE);
        due("STATUS 2", x.status(2), 1);
        due("all() is an ACT all the same", x.all(), 0);
        due("FLUSHES that laid any of a BIN", x.most(3), 1);
        says("no such TILE (STATUS 0)");
        TileLights y = scene("size 8,8;tile 2;" + Bounds.point(60, 60, 5, 7, 8));
        y.draw(0);
        due("flush(16)", y.flush(16), NONE);
        due("flush(-1)", y.flush(-1), NONE);
        due("flush(MIN)", y.flush(Bounds.MIN), NONE);
        due("flush(MAX)", y.flush(Bounds.MAX), NONE);
        due("status(0)", y.status(0), 4);
        due("flush(15)", y.flush(15), 1);
        due("flush(14)", y.flush(14), NONE);
        due("status(2)", y.status(2), 1);
        says("FLUSHES by hand, by all, by a full BIN");
        TileLights z = scene("size 4,2;tile 2;room 1;" + cover(5, 7, 8));
        z.draw(0);
        z.flush(0);
        due("by hand", z.most(3), 1);
        z.draw(0);
        due("by a full BIN: TILE 1", z.most(3), 2);
        due("of how many the BIN was not empty", z.all(), 2);
        due("by all", z.most(3), 4);
    }

    private static void skipped() {
        says("can its least z not PASS against FAR as it is now, it is SKIPPED (counted), nothing else");
        // What lies there has 500 everywhere.
        int[][] rows = {{0, 499, 0, 1}, {0, 500, 1, 0}, {0, 501, 1, 0}, {1, 499, 0, 1}, {1, 500, 0, 1}, {1, 501, 1, 0}, {0, 0, 0, 1}, {1, 999, 1, 0}};
        for (int[] row : rows) {
            TileLights x = scene(ONE + "test " + row[0] + ";" + cover(500, 7, 8) + ";" + cover(row[1], 9, 8));
            x.draw(0);
            x.draw(1);
            x.flush(0);
            due("SKIPPED: test " + row[0] + ", least z " + row[1], x.most(1), row[2]);
            due("TESTED: test " + row[0] + ", least z " + row[1], x.most(2), 1 + row[3]);
            due("COLOR: test " + row[0] + ", least z " + row[1], x.pixel(0, 0), row[3] == 1 ? 9 : 7);
        }
        says("an empty TILE has FAR 1000: z 999 PASSES");
        TileLights x = scene(ONE + cover(999, 7, 8));
        x.draw(0);
        x.draw(0);
        x.all();
        due("SKIPPED the second alone", x.most(1) * 10 + x.most(2), 11);
        says("FAR is the greatest: one SAMPLE not covered keeps it 1000");
        TileLights y = scene("size 2,1;tile 2;" + Bounds.point(4, 4, 5, 7, 8) + ";" + cover(999, 9, 8));
        y.draw(0);
        y.draw(1);
        y.all();
        due("not SKIPPED, TESTED at both", y.most(1) * 10 + y.most(2), 3);
        due("COLORS", y.pixel(0, 0) * 10 + y.pixel(1, 0), 79);
        says("its least z: one CORNER near enough is enough");
        TileLights z = scene(ONE + cover(500, 7, 8) + ";flat -9,-9,501,99,-9,501,-9,99,499,9,8");
        z.draw(0);
        z.draw(1);
        z.all();
        due("DEPTH of it is 500", z.depth(1, 0, 0, 0), 500);
        due("not SKIPPED, but TESTED and not seen", z.most(1) * 1000 + z.most(2) * 10 + z.pixel(0, 0), 27);
        says("what TOUCHES a TILE and COVERS no SAMPLE there is SKIPPED by the same rule");
        TileLights w = scene("size 4,2;tile 2;" + cover(5, 7, 8) + ";flat 9,2,9,16,2,9,9,9,9,8,8");
        due("into both", w.draw(0) + w.draw(1), 4);
        w.all();
        due("SKIPPED in both, TESTED what the first COVERS", w.most(1) * 100 + w.most(2), 208);
    }

    private static void passes() {
        says("it PASSES, if it is less than that of the SAMPLE, by test 1 also if as great");
        for (int test = 0; test <= 1; test++) {
            for (int by = -1; by <= 1; by++) {
                // The nearer corner keeps the second one from being SKIPPED; in the CENTRE it has 500 and by.
                TileLights x = scene("size 2,1;tile 2;test " + test + ";" + Bounds.point(4, 4, 500, 7, 8) + ";" + cover(500 + by, 9, 8));
                x.draw(0);
                x.draw(1);
                x.all();
                boolean seen = by < test;
                due("test " + test + ", DEPTH " + (500 + by) + " on 500", x.pixel(0, 0), seen ? 9 : 7);
                due("its DEPTH", x.sample(0, 0, 0, 0), seen ? 500 + by : 500);
                due("TESTED each time", x.most(2), 3);
                due("SKIPPED", x.most(1), 0);
            }
        }
        says("test is that of the time of the FLUSH");
        TileLights x = scene("size 2,1;tile 2;" + Bounds.point(4, 4, 500, 7, 8) + ";" + cover(500, 9, 8));
        x.draw(0);
        x.draw(1);
        x.set(1, 1);
        x.all();
        due("as great", x.pixel(0, 0), 9);
    }

    private static void opaque() {
        says("If it PASSES with ALPHA 8: by late 1 it is PENDING there (in place of another one), by late 0 it is SHADED there");
        for (int late = 0; late <= 1; late++) {
            TileLights x = scene(ONE + "late " + late + ";" + cover(9, 7, 8) + ";" + cover(5, 8, 8) + ";" + cover(3, 9, 8));
            for (int t = 0; t < 3; t++) x.draw(t);
            x.all();
            due("SHADED by late " + late, x.shaded(0) * 100 + x.shaded(1) * 10 + x.shaded(2), late == 1 ? 1 : 111);
            due("COLOR", x.pixel(0, 0), 9);
            due("DEPTH", x.sample(0, 0, 0, 0), 3);
        }
        says("late is that of the time of the FLUSH");
        TileLights x = scene(ONE + cover(9, 7, 8) + ";" + cover(5, 8, 8));
        x.draw(0);
        x.draw(1);
        x.set(2, 0);
        x.flush(0);
        due("both are SHADED", x.most(0), 2);
    }

    private static void blended() {
        says("with a lesser ALPHA: COLOR is SHADE times ALPHA and COLOR times 8 less ALPHA, added up, by 8, cut");
        for (int alpha = 1; alpha <= 8; alpha++) {
            for (int[] c : new int[][] {{0, 255}, {255, 0}, {255, 255}, {0, 0}, {1, 0}, {7, 200}}) {
                TileLights x = scene(ONE + "back " + c[1] + ";" + cover(5, c[0], alpha));
                x.draw(0);
                x.flush(0);
                due("ALPHA " + alpha + ", " + c[0] + " on " + c[1], x.pixel(0, 0), (c[0] * alpha + c[1] * (8 - alpha)) / 8);
                due("the DEPTH stays, but by ALPHA 8", x.sample(0, 0, 0, 0), alpha == 8 ? 5 : 1000);
                due("it counts as SHADED", x.shaded(0), 1);
            }
        }
        says("it counts as SHADED in that PIXEL (a set)");
        TileLights pixels = scene("size 3,2;tile 2;many 2;" + cover(5, 7, 3));
        pixels.draw(0);
        pixels.draw(0);
        pixels.all();
        due("bits", pixels.shaded(0), 7L | 7L << 8);
        due("pairs", pixels.most(0), 6);
        says("is one PENDING there, that is SHADED");
        TileLights x = scene(ONE + "back 3;" + cover(9, 80, 8) + ";" + cover(8, 160, 4) + ";" + cover(7, 200, 8));
        for (int t = 0; t < 3; t++) x.draw(t);
        x.flush(0);
        due("all three are SHADED, the last in place of what was blended", x.most(0) * 1000 + x.pixel(0, 0), 3200);
        x.clear();
        x.draw(0);
        x.draw(1);
        x.flush(0);
        due("160 on 80 by half", x.pixel(0, 0), 120);
        x.clear();
        x.draw(0);
        x.draw(2);
        x.draw(1);
        x.flush(0);
        due("behind the nearer one: not SHADED, and so is not the first", x.shaded(0) * 100 + x.shaded(1) * 10 + x.shaded(2), 1);
        says("what is not is blended in order");
        TileLights y = scene(ONE + cover(9, 80, 4) + ";" + cover(9, 160, 4));
        y.draw(0);
        y.draw(1);
        y.flush(0);
        due("80, then 160", y.pixel(0, 0), 100);
        y.clear();
        y.draw(1);
        y.draw(0);
        y.flush(0);
        due("160, then 80", y.pixel(0, 0), 80);
    }

    private static void shadedSet() {
        says("the TRIANGLE has this PIXEL among those in which it was SHADED (a set)");
        TileLights x = scene("size 2,1;tile 2;many 4;test 1;" + cover(5, 7, 8));
        for (int i = 0; i < 3; i++) {
            x.draw(0);
            x.flush(0);
            due("four SAMPLES, each time again: one PIXEL", x.shaded(0), 3);
            due("pairs", x.most(0) * 10 + x.triangle(0, 10), 22);
        }
        says("shaded: bit Y times 8 and X. 0: no such one, too");
        due("shaded(1)", x.shaded(1), 0);
        due("shaded(-1)", x.shaded(-1), 0);
        due("shaded(MIN)", x.shaded(Bounds.MIN), 0);
        due("shaded(MAX)", x.shaded(Bounds.MAX), 0);
        TileLights all = scene("flat -99,-99,5,160,-99,5,-99,160,5,7,8");
        due("not SHADED yet", all.shaded(0), 0);
        all.draw(0);
        all.all();
        // The far EDGE goes from 160, -99 to -99, 160: 60 60 lies beyond it, 60 and 52 added up do not.
        long bits = -1L;
        for (int i = 0; i < 64; i++) if (i % 8 * 8 + 4 + i / 8 * 8 + 4 >= 61) bits &= ~(1L << i);
        due("all that it COVERS", all.shaded(0), bits);
    }

    private static void resolved() {
        says("RESOLVED, a PIXEL: COLORS of its SAMPLES, added up, by how many there are, cut");
        for (int many = 1; many <= 4; many *= 2) {
            int[] lie = LIE[many / 2];
            for (int lit = 0; lit <= many; lit++) {
                StringBuilder text = new StringBuilder("size 1,1;back 3;many " + many);
                for (int k = 0; k < many; k++) text.append(';').append(Bounds.point(lie[2 * k], lie[2 * k + 1], 5, 10, 8));
                TileLights x = scene(text.toString());
                for (int k = 0; k < lit; k++) x.draw(k);
                x.all();
                due(lit + " of " + many + " lit", x.pixel(0, 0), (10 * lit + 3 * (many - lit)) / many);
            }
        }
        due("255 four times", white().pixel(0, 0), 255);
        says("NONE: no such PIXEL");
        TileLights x = scene("size 3,2;" + cover(5, 7, 8));
        for (int[] at : new int[][] {{3, 0}, {0, 2}, {-1, 0}, {0, -1}, {Bounds.MIN, 0}, {0, Bounds.MAX}, {7, 7}}) {
            due("pixel", x.pixel(at[0], at[1]), NONE);
            due("shown", x.shown(at[0], at[1]), NONE);
            due("whole", x.whole(at[0], at[1]), NONE);
            due("mask", x.mask(0, at[0], at[1]), NONE);
            due("depth", x.depth(0, at[0], at[1], 0), NONE);
            due("shade", x.shade(0, at[0], at[1]), NONE);
            due("sample", x.sample(at[0], at[1], 0, 0), HIDDEN);
            due("layer", x.layer(at[0], at[1], 0, 0), NONE);
        }
        due("the last PIXEL", x.pixel(2, 1) + x.whole(2, 1), 7);
    }

    private static TileLights white() {
        TileLights x = scene("size 1,1;many 4;" + cover(5, 255, 8));
        x.draw(0);
        x.all();
        return x;
    }

    // ---- ACTS ----

    private static void clear() {
        says("CLEAR (all SAMPLES as at first, BINS empty, nothing was SHADED, TESTED, SKIPPED, FLUSHED)");
        TileLights x = scene("size 4,2;tile 2;many 2;back 9;room 2;" + cover(5, 7, 8) + ";" + cover(6, 8, 8));
        due("of a frame as at first: an ACT all the same", x.clear() * 10 + x.count(5), 1);
        for (int i = 0; i < 5; i++) x.draw(i % 2);
        due("there was some of each", Math.min(x.most(0), Math.min(x.most(1), Math.min(x.most(2), x.most(3)))) > 0 ? 1 : 0, 1);
        x.set(1, 1);
        x.set(2, 0);
        due("clear: how many there were in BINS", x.clear(), 2);
        for (int i = 0; i < 16; i++) {
            due("DEPTH", x.sample(i % 4, i / 4 % 2, i / 8, 0), 1000);
            due("COLOR", x.sample(i % 4, i / 4 % 2, i / 8, 1), 9);
        }
        for (int what = 0; what <= 3; what++) due("most(" + what + ")", x.most(what), 0);
        due("SHADED", x.shaded(0) + x.shaded(1) + x.triangle(0, 10), 0);
        due("BINS", x.tile(0, 0) + x.tile(1, 0) + x.triangle(0, 11) + x.triangle(1, 11) + x.most(9), 0);
        due("rules are no part of it", x.rule(6) * 10 + x.rule(7), 10);
        due("nor is the LOG", x.count(4), 9);
        says("clear: NONE: no SCENE (STATUS 0)");
        TileLights none = new TileLights();
        due("clear()", none.clear(), NONE);
        due("status(0)", none.status(0), 1);
        due("all()", none.all(), NONE);
        due("status(0)", none.status(0), 2);
    }

    private static void rules() {
        says("cull, test, late, room are set: what it was; out of bounds (1), it is so (2)");
        int[] low = {0, 0, 0, 1};
        int[] high = {2, 1, 1, 10};
        int[] first = {0, 0, 1, 10};
        for (int what = 0; what < 4; what++) {
            TileLights x = scene(ONE + cover(5, 7, 8));
            int was = first[what];
            due("it is so", x.set(what, was), NONE);
            due("STATUS 2", x.status(2), 1);
            for (int v = low[what]; v <= high[what]; v++) {
                if (v == was) continue;
                due("set(" + what + ", " + v + ")", x.set(what, v), was);
                due("rule", x.rule(5 + what), v);
                due("it is so", x.set(what, v), NONE);
                was = v;
            }
            int acts = x.count(5);
            due("STATUS 2", x.status(2), 1 + acts);
            int[] bad = {low[what] - 1, high[what] + 1, Bounds.MIN, Bounds.MAX};
            for (int v : bad) due("set(" + what + ", " + v + ")", x.set(what, v), NONE);
            due("STATUS 1", x.status(1), 4);
            due("it is as it was", x.rule(5 + what), was);
            due("no ACTS", x.count(5), acts);
        }
        TileLights x = scene(ONE + cover(5, 7, 8));
        for (int what : new int[] {-1, 4, 5, Bounds.MIN, Bounds.MAX}) due("set(" + what + ", 1)", x.set(what, 1), NONE);
        due("no such what (1)", x.status(1), 5);
        due("no other", x.status(0) + x.status(2) + x.status(3), 0);
    }

    private static void moved() {
        says("MOVED by -20 .. 20");
        for (int by : new int[] {-21, -20, 20, 21, Bounds.MIN, Bounds.MAX}) {
            boolean may = by == -20 || by == 20;
            TileLights x = scene("flat 30,30,0,31,30,0,30,31,0,7,8");
            // AREA of (30, 30), (31, 30), (30, 31): the first goes across by n or down by n: 1 less n.
            due("across " + by, x.move(0, 0, by, 0), may ? 1 - by : HIDDEN);
            due("x", x.corner(0, 0, 0), may ? 30 + by : 30);
            due("STATUS 1", x.status(1), may ? 0 : 1);
            TileLights y = scene("flat 30,30,0,31,30,0,30,31,0,7,8");
            due("down " + by, y.move(0, 0, 0, by), may ? 1 - by : HIDDEN);
            due("y", y.corner(0, 0, 1), may ? 30 + by : 30);
            due("STATUS 1", y.status(1), may ? 0 : 1);
        }
        says("its x or y beyond -99 .. 160 then (1)");
        TileLights x = scene("flat -90,150,0,150,-90,0,0,0,0,7,8");
        int[][] moves = {{0, -10, 0, 0}, {0, 0, 11, 0}, {1, 11, 0, 0}, {1, 0, -10, 0}, {0, -9, 10, 1}, {1, 10, -9, 1}, {0, -1, 0, 0}, {0, 0, 1, 0}, {1, 1, 0, 0}, {1, 0, -1, 0}};
        int refusals = 0;
        for (int[] m : moves) {
            int answer = x.move(0, m[0], m[1], m[2]);
            due("move(0, " + m[0] + ", " + m[1] + ", " + m[2] + ")", answer == HIDDEN ? 0 : 1, m[3]);
            refusals += 1 - m[3];
            due("STATUS 1", x.status(1), refusals);
        }
        due("at the bounds", x.corner(0, 0, 0) == -99 && x.corner(0, 0, 1) == 160 && x.corner(0, 1, 0) == 160 && x.corner(0, 1, 1) == -99 ? 1 : 0, 1);
        says("a CORNER is MOVED: it TOUCHES and COVERS as it lies then");
        TileLights far = scene("size 4,4;tile 2;flat 18,18,5,26,18,5,18,26,5,7,8");
        due("TILE 3", far.triangle(0, 7), 8);
        far.move(0, 0, -16, -16);
        due("all but it reaches no TILE less", far.triangle(0, 7), 15);
        far.move(0, 1, -16, -16);
        far.move(0, 2, -16, -16);
        due("TILE 0 alone", far.triangle(0, 7) * 10 + far.triangle(0, 9), 11);
        due("DRAWN into it alone", far.draw(0) * 10 + far.tile(0, 0), 11);
        far.undo();
        for (int i = 0; i < 3; i++) far.undo();
        due("TILE 3 again", far.triangle(0, 7) * 10 + far.mask(0, 2, 2), 81);
        says("a CORNER is MOVED: AREA then, 0 too");
        TileLights y = scene(ONE + "flat 0,0,5,8,0,5,0,8,5,7,8");
        due("AREA 0", y.move(0, 2, 8, -8), 0);
        due("CULLED then", y.most(7), 1);
        due("draw", y.draw(0), NONE);
        due("and back", y.move(0, 2, -8, 8), 64);
        due("below 0", y.move(0, 1, -16, 0), -64);
        says("of a TRIANGLE that is in no BIN (3)");
        TileLights z = scene("size 4,2;tile 2;" + cover(5, 7, 8) + ";" + cover(6, 8, 8));
        z.draw(0);
        due("in BINS", z.move(0, 0, 1, 0), HIDDEN);
        due("STATUS 3", z.status(3), 1);
        due("another one is in none", z.move(1, 0, 1, 0) != HIDDEN ? 1 : 0, 1);
        z.flush(0);
        due("in one BIN still", z.move(0, 0, 1, 0), HIDDEN);
        z.flush(1);
        due("in none", z.move(0, 0, 1, 0) != HIDDEN ? 1 : 0, 1);
        z.draw(0);
        z.clear();
        due("in none by CLEAR", z.move(0, 0, 1, 0) != HIDDEN ? 1 : 0, 1);
        z.draw(0);
        z.undo();
        due("in none by UNDO", z.move(0, 0, 1, 0) != HIDDEN ? 1 : 0, 1);
        due("STATUS 3", z.status(3), 2);
    }

    private static void undone() {
        says("the latest 40 can be UNDONE one by one (the LOG, too)");
        for (int acts : new int[] {0, 1, 39, 40, 41, 79, 80, 81, 100}) {
            TileLights x = scene(ONE + cover(5, 7, 8));
            for (int i = 0; i < acts; i++) x.set(3, 1 + i % 10 == x.rule(8) ? 1 + (i + 5) % 10 : 1 + i % 10);
            int can = Math.min(acts, 40);
            due("count(5) of " + acts, x.count(5), can);
            due("count(4) of " + acts, x.count(4), Math.min(acts, 60));
            for (int i = can - 1; i >= 0; i--) due("undo() of " + acts, x.undo(), i);
            due("undo() of none", x.undo(), NONE);
            due("what is left of " + acts + " in the LOG", x.count(4), Math.min(acts - can, 60));
            due("the rule of " + acts, x.rule(8), acts <= 40 ? 10 : 1 + (acts - 41) % 10);
        }
        says("what was UNDONE makes room for ACTS anew");
        TileLights x = scene(ONE + cover(5, 7, 8));
        for (int i = 0; i < 40; i++) x.all();
        for (int i = 0; i < 15; i++) x.undo();
        for (int i = 0; i < 15; i++) due("count(5)", x.count(5) + x.clear(), 25 + i);
        due("40", x.count(5), 40);
        x.clear();
        due("40 still", x.count(5), 40);
        for (int i = 39; i >= 24; i--) due("undo()", x.undo(), i);
        due("a flush of all is the latest then", x.log(0, 0), 2);
        says("what is refused can't be UNDONE");
        TileLights y = scene(ONE + cover(5, 7, 8));
        y.draw(0);
        y.draw(9);
        y.set(0, 0);
        y.move(0, 0, 1, 1);
        due("one ACT", y.count(5), 1);
        due("undo", y.undo(), 0);
        due("it was the draw", y.tile(0, 0), 0);
    }

    private static void statusOfSeveral() {
        says("STATUS: of several the first");
        TileLights none = new TileLights();
        none.draw(99);
        none.flush(99);
        none.set(99, 99);
        none.move(99, 99, 99, 99);
        due("no SCENE: 0 alone", none.status(0) * 1000 + none.status(1) + none.status(2) + none.status(3), 4000);
        // Of move all sorts of what can't be, put together; the least of them counts.
        for (int bits = 1; bits < 16; bits++) {
            TileLights x = scene("size 4,2;tile 2;" + cover(5, 7, 8) + ";" + cover(6, 8, 8));
            boolean inBin = (bits & 8) != 0;
            if (inBin) x.draw(0);
            int triangle = (bits & 1) != 0 ? 2 : 0;
            int corner = (bits & 2) != 0 ? 3 : 0;
            int across = (bits & 4) != 0 ? 0 : 1;
            due("move by " + bits, x.move(triangle, corner, across, 0), HIDDEN);
            int first = Integer.numberOfTrailingZeros(bits);
            for (int i = 0; i < 4; i++) due("status(" + i + ") of move by " + bits, x.status(i), i == first ? 1 : 0);
        }
        TileLights x = scene("size 4,2;tile 2;flat -99,0,0,9,0,0,0,9,0,7,8");
        x.draw(0);
        due("beyond and in a BIN", x.move(0, 0, -1, 0), HIDDEN);
        due("1 alone", x.status(1) * 10 + x.status(2) + x.status(3), 10);
        due("no such CORNER by 0 both", x.move(0, -1, 0, 0), HIDDEN);
        due("1 alone", x.status(1) * 10 + x.status(2) + x.status(3), 20);
    }

    private static void statusCounts() {
        says("STATUS: how many ACTS were refused; not UNDONE");
        TileLights x = scene(ONE + cover(5, 7, 8));
        for (int i = 1; i <= 100; i++) {
            x.draw(1);
            due("status(0)", x.status(0), i);
        }
        x.draw(0);
        x.undo();
        x.image();
        x.back();
        due("as it was", x.status(0), 100);
        Bounds.tell(x, ONE + cover(5, 7, 8), 0);
        due("another SCENE leaves it", x.status(0), 100);
        says("NONE: no such what");
        for (int what : new int[] {-1, 4, Bounds.MIN, Bounds.MAX}) due("status(" + what + ")", x.status(what), NONE);
        says("An object is used for at most 512 calls");
        TileLights y = new TileLights();
        for (int i = 0; i < 511; i++) y.draw(0);
        due("the 512th call", y.status(0), 511);
    }

    private static void log() {
        says("The LOG: of each ACT its sort, its number, how many pairs are SHADED then: the latest 60");
        for (int acts : new int[] {0, 1, 59, 60, 61, 119, 120, 121}) {
            TileLights x = scene(ONE + cover(5, 7, 8));
            for (int i = 0; i < acts; i++) {
                if (i % 7 == 3) x.clear();
                else x.set(3, x.rule(8) % 10 + 1);
            }
            due("count(4) of " + acts, x.count(4), Math.min(acts, 60));
            for (int i = 0; i < Math.min(acts, 60); i++) {
                boolean clear = (acts - 1 - i) % 7 == 3;
                due("log(" + i + ", 0) of " + acts, x.log(i, 0), clear ? 3 : 4);
                due("log(" + i + ", 1) of " + acts, x.log(i, 1), clear ? 0 : 3);
            }
            due("log(-1, 0)", x.log(-1, 0), NONE);
            due("one behind the last", x.log(Math.min(acts, 60), 0), NONE);
            due("log(MAX, 0)", x.log(Bounds.MAX, 0), NONE);
            due("log(MIN, 0)", x.log(Bounds.MIN, 0), NONE);
        }
        says("its sort (0 draw, 1 flush, 2 all, 3 clear, 4 a rule, 5 move), its number (the TRIANGLE, the TILE, which rule; 0)");
        TileLights x = scene("size 4,2;tile 2;" + cover(5, 7, 8) + ";" + cover(6, 8, 8));
        x.draw(1);
        x.flush(1);
        x.all();
        x.clear();
        for (int what = 0; what < 4; what++) x.set(what, what == 2 ? 0 : 1);
        x.move(1, 2, 1, 1);
        int[][] want = {{5, 1, 0}, {4, 3, 0}, {4, 2, 0}, {4, 1, 0}, {4, 0, 0}, {3, 0, 0}, {2, 0, 8}, {1, 1, 4}, {0, 1, 0}};
        for (int i = 0; i < want.length; i++) {
            for (int what = 0; what < 3; what++) due("log(" + i + ", " + what + ")", x.log(i, what), want[i][what]);
            due("log(" + i + ", 3)", x.log(i, 3), NONE);
            due("log(" + i + ", -1)", x.log(i, -1), NONE);
        }
        says("UNDONE: the LOG, too, also what the latest 60 had lost");
        TileLights y = scene(ONE + cover(5, 7, 8));
        y.draw(0);
        for (int i = 0; i < 59; i++) y.clear();
        due("the draw is the 60th", y.log(59, 0), 0);
        for (int i = 0; i < 40; i++) y.all();
        due("all and clear", y.log(0, 0) * 10 + y.log(59, 0), 23);
        for (int i = 0; i < 40; i++) y.undo();
        due("as it was", y.log(0, 0) * 10 + y.log(59, 0), 30);
        due("60 of them", y.count(4), 60);
    }
}
