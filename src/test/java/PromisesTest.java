import java.util.NoSuchElementException;

/** For each promise its ordinary answers, the edges that the document names, and wrong inputs; what is due was reckoned by hand. */
public final class PromisesTest {
    private static final int NONE = -1;
    private static final int HIDDEN = -1000000000;
    private static final int MIN = Integer.MIN_VALUE;
    private static final int MAX = Integer.MAX_VALUE;
    private static final String TINY = "flat 0,0,0,8,0,0,0,8,0,1,1";
    // Half of a frame of 4 times 4 PIXELS: COVERS those with X and Y added up below 3; the far side is not HIGH.
    private static final String HALF = "flat 0,0,10,32,0,10,0,32,10,200,8";
    private static final String FRAME = "size 4,4;tile 2;";
    // All of a frame of 2 times 2.
    private static final String ALL_OF = " -16,-16,%d,64,-16,%d,-16,64,%d,%d,%d";
    private static int wrong = 0;
    private static int checks = 0;
    private static String promise = "";

    public static void main(String[] args) {
        constants();
        newObject();
        feed();
        end();
        faultOfScene();
        faultOfScript();
        text();
        rule();
        triangle();
        cornerAndEdge();
        maskAndDepth();
        samplesOfPixels();
        shade();
        sampleAndPixel();
        tileAndBin();
        cutTiles();
        draw();
        fullBin();
        flush();
        blending();
        lateAndEarly();
        skipping();
        allAndClear();
        set();
        culledInBin();
        move();
        years();
        status();
        undo();
        log();
        step();
        runAndPerform();
        layer();
        shownAndWhole();
        sharedAndBorder();
        leftHidesSaved();
        orders();
        shifts();
        most();
        imageAndBack();
        count();
        System.out.println(checks + " checks, " + wrong + " wrong");
        if (wrong != 0) System.exit(1);
    }

    private static void due(String call, long got, long want) {
        checks++;
        if (got != want) {
            wrong++;
            System.out.println("promise " + promise + ": " + call + " answered " + got + ", due is " + want);
        }
    }

    private static void due(String call, boolean got) {
        due(call, got ? 1 : 0, 1);
    }

    private static TileLights feed(TileLights x, String text) {
        x.end(0);
        for (int at = 0; at < text.length(); at += 20) {
            int[] v = new int[5];
            for (int i = 0; i < 20; i++) v[i / 4] = v[i / 4] << 8 | (at + i < text.length() ? text.charAt(at + i) : 0);
            x.feed(v[0], v[1], v[2], v[3], v[4]);
        }
        return x;
    }

    private static int tell(TileLights x, String text, int sort) {
        return feed(x, text).text(sort);
    }

    private static TileLights scene(String text) {
        TileLights x = new TileLights();
        if (tell(x, text, 0) < 1) {
            wrong++;
            System.out.println("not a scene: " + text);
        }
        return x;
    }

    private static void fault(String text, int sort, int want) {
        due("fault(" + sort + ") of '" + text + "'", feed(new TileLights(), text).fault(sort), want);
    }

    private static String full(String pattern, int z, int color, int alpha) {
        return pattern + String.format(ALL_OF, z, z, z, color, alpha);
    }

    private static void constants() {
        promise = "constants";
        due("NONE", TileLights.NONE, NONE);
        due("HIDDEN", TileLights.HIDDEN, HIDDEN);
    }

    private static void newObject() {
        promise = "1";
        TileLights x = new TileLights();
        for (int what = 0; what <= 5; what++) due("count(" + what + ")", x.count(what), 0);
        for (int what = 0; what <= 3; what++) due("status", x.status(what), 0);
        due("rule(0)", x.rule(0), NONE);
        due("most(0)", x.most(0), HIDDEN);
        due("pixel(0, 0)", x.pixel(0, 0), NONE);
        due("undo()", x.undo(), NONE);
        due("back()", x.back(), NONE);
    }

    private static void feed() {
        promise = "2";
        TileLights x = new TileLights();
        due("feed of zeros", x.feed(0, 0, 0, 0, 0), 0);
        due("feed of some zeros", x.feed(0x61006200, 0, 0x00000063, 0x64000000, 0x00656600), 6);
        due("the order of bytes", x.fault(1), 0);
        x.end(0);
        due("all", x.feed(0x00610000, 0x006c006c, 0, 0, 0), 3);
        due("fault(1) of all", x.fault(1), NONE);
        x.end(0);
        for (int i = 1; i <= 24; i++) due("feed", x.feed(-1, MAX, MIN + 0x10101, 0x80808080, 0x20202020), i * 20L);
        due("count(2)", x.count(2), 480);
        due("nothing more", x.feed(0, 0, 0, 0, 0), 480);
        due("one more", x.feed(0, 0, 1, 0, 0), NONE);
        due("count(2)", x.count(2), 480);
        x.end(470);
        due("eleven more", x.feed(-1, -1, 0x01010100, 0, 0), NONE);
        due("ten more", x.feed(-1, -1, 0x01010000, 0, 0), 480);
        for (int i = 0; i < 5; i++) {
            x.end(478);
            int[] v = new int[5];
            v[i] = 0x00414243;
            due("three more in number " + i, x.feed(v[0], v[1], v[2], v[3], v[4]), NONE);
            v[i] = 0x41000043;
            due("two more in number " + i, x.feed(v[0], v[1], v[2], v[3], v[4]), 480);
        }
    }

    private static void end() {
        promise = "3";
        TileLights x = feed(new TileLights(), "all;allx");
        due("end(-1)", !x.end(-1));
        due("end(9)", !x.end(9));
        due("end(MIN)", !x.end(MIN));
        due("end(MAX)", !x.end(MAX));
        due("count(2)", x.count(2), 8);
        due("end(8)", x.end(8));
        due("fault(1)", x.fault(1), 4);
        due("end(7)", x.end(7));
        due("fault(1)", x.fault(1), NONE);
        due("end(8) behind the end", !x.end(8));
        due("end(0)", x.end(0));
        due("count(2)", x.count(2), 0);
    }

    private static void faultOfScene() {
        promise = "4";
        due("no such sort", new TileLights().fault(2), -2);
        due("no such sort", new TileLights().fault(-1), -2);
        fault("", 0, 0);
        fault("   ", 0, 3);
        fault(TINY, 0, NONE);
        fault("  " + TINY + "  ", 0, NONE);
        fault("size2,2;tile2;" + TINY.replace(" ", ""), 0, NONE);
        fault(TINY + ";size 1 , 8", 0, NONE);
        fault("size 0,8", 0, 5);
        fault("size 8, 9", 0, 8);
        fault("size 8,0", 0, 7);
        fault("tile 1;" + TINY, 0, 5);
        fault("room 0;" + TINY, 0, 5);
        fault("size 8,8 ", 0, 9);
        fault("tile 2;many 2;back 255;cull 2;test 1;late 0;room 10;" + TINY, 0, NONE);
        fault("tile 5;" + TINY, 0, 5);
        fault("many 0;" + TINY, 0, 5);
        fault("many  3;" + TINY, 0, 6);
        fault("many 5;" + TINY, 0, 5);
        fault("back 256;" + TINY, 0, 5);
        fault("back -1;" + TINY, 0, 5);
        fault("back -0;" + TINY, 0, NONE);
        fault("back -007;" + TINY, 0, 5);
        fault("back 0000000000000000000000000255;" + TINY, 0, NONE);
        fault("back 4294967296;" + TINY, 0, 5);
        fault("cull 3;" + TINY, 0, 5);
        fault("test 2;" + TINY, 0, 5);
        fault("late 2;" + TINY, 0, 5);
        fault("room 11;" + TINY, 0, 5);
        for (String word : new String[] {"size 1,1", "tile 2", "many 1", "back 1", "cull 1", "test 1", "late 1", "room 1"}) {
            fault(word + ";" + word + ";" + TINY, 0, word.length() + 1);
        }
        fault("draw 1;" + TINY, 0, 0);
        fault("move 1;" + TINY, 0, 0);
        fault("siz 1,1", 0, 0);
        fault("sizes 1,1", 0, 0);
        fault(" 5", 0, 1);
        fault("tile;", 0, 4);
        fault("tile ,4", 0, 5);
        fault("tile flat", 0, 5);
        fault("tile 4,4", 0, 6);
        fault("tile 4 4", 0, 7);
        fault("tile 4-4", 0, 6);
        fault("tile --4", 0, 5);
        fault("tile -", 0, 5);
        fault("tile - 4", 0, 5);
        fault("tile 4;", 0, 7);
        fault("tile 4; ;", 0, 8);
        fault("tile 4" + (char) 9, 0, 6);
        fault("tile 4" + (char) 255, 0, 6);
        fault("Tile 4", 0, 0);
        fault("tilE 4", 0, 0);
        fault("flat 1,2,3,4,5,6,7,8,9,256,8", 0, 23);
        fault("flat 1,2,3,4,5,6,7,8,9,10,0", 0, 26);
        fault("flat 1,2,1000", 0, 9);
        fault("flat 1,161", 0, 7);
        fault("flat 1,2,3,4,5,6,7,8,9,10,8,", 0, 27);
        fault("deep -99,160,0,160,-99,999,0,0,0,0,1", 0, NONE);
        fault("rows 1,2,3,4,5,6,7,8,9,10", 0, 25);
        // The TAPE is full and ends where a part must be.
        for (String last : new String[] {"", "tile", "tile -", "size 8", "size 8,", "size 8,8", "size 8,8;"}) {
            String filled = " ".repeat(480 - last.length()) + last;
            fault(filled, 0, last.equals("tile -") ? 479 : 480);
        }
        fault(" ".repeat(480 - TINY.length()) + TINY, 0, NONE);
        String ten = "flat0,0,0,8,0,0,0,8,0,1,1;".repeat(10);
        fault(ten.substring(0, ten.length() - 1), 0, NONE);
        fault(ten + "tile 2", 0, NONE);
        fault(ten, 0, ten.length());
        fault(ten + " " + TINY, 0, ten.length() + 1);
        fault(ten + "deep", 0, ten.length());
    }

    private static void faultOfScript() {
        fault("", 1, 0);
        fault("all", 1, NONE);
        fault(" all ;clear", 1, NONE);
        fault("flush 15;flush 16", 1, 15);
        fault("draw -1", 1, 5);
        fault("draw 9", 1, NONE);
        fault("draw 10", 1, 5);
        fault("cull 3", 1, 5);
        fault("test 2", 1, 5);
        fault("late 2", 1, 5);
        fault("room 0", 1, 5);
        fault("move 9,2,-20,20;move 9,3,0,0", 1, 23);
        fault("move 9,2,-21,0", 1, 9);
        fault("move 9,2,0,21", 1, 11);
        fault("move 9,2,0", 1, 10);
        fault("move 9,2,0,0,0", 1, 12);
        fault("move 10,2,0,0", 1, 5);
        fault("all,1", 1, 3);
        fault("clear 1", 1, 6);
        fault("tile 2", 1, 0);
        fault(TINY, 1, 0);
        fault("all;", 1, 4);
        fault("all;all all", 1, 8);
        String twelve = "all;".repeat(12);
        fault(twelve.substring(0, 47), 1, NONE);
        fault(twelve.substring(0, 47) + "  ;all", 1, 49);
        fault(twelve, 1, 47);
        fault(twelve.substring(0, 47) + ",", 1, 47);
    }

    private static void text() {
        promise = "5";
        TileLights x = feed(new TileLights(), "tile 2");
        due("a FAULT", x.text(0), NONE);
        due("the TAPE stays", x.count(2), 6);
        due("no such sort", x.text(2), NONE);
        due("no such sort", x.text(-1), NONE);
        due("a SCRIPT that is none", x.text(1), NONE);
        due("a SCENE", tell(x, FRAME + HALF + ";" + TINY, 0), 2);
        due("the TAPE is empty", x.count(2), 0);
        due("an empty TAPE", x.text(0), NONE);
        due("the SCENE stays", x.count(0), 2);
        x.draw(0);
        x.draw(7);
        x.set(2, 0);
        x.image();
        for (int i = 0; i < 4; i++) due("a SCRIPT", tell(x, "all;draw " + i, 1), i);
        due("a fifth SCRIPT", tell(x, "all", 1), NONE);
        due("its TAPE stays", x.count(2), 3);
        due("it is no FAULT", x.fault(1), NONE);
        due("the SCRIPTS are as they were", x.step(3, 1, 1), 3);
        due("another SCENE", tell(x, "late 1;room 3;" + TINY, 0), 1);
        due("SCRIPTS stay", x.count(1), 4);
        due("STATUS stays", x.status(0), 1);
        due("the LOG is gone", x.count(4), 0);
        due("no ACT to UNDO", x.undo(), NONE);
        due("no IMAGE", x.back(), NONE);
        due("no BIN is filled", x.most(9), 0);
        due("rules are those of the SCENE", x.rule(7), 1);
        due("rules are those of the SCENE", x.rule(8), 3);
        due("sizes without a clause", x.rule(0) * 10L + x.rule(1), 88);
        sameCorners();
    }

    /** Another SCENE with the same CORNERS: nothing that was reckoned for the one ahead is left. */
    private static void sameCorners() {
        TileLights x = scene("size 2,2;tile 2;flat 0,0,10,16,0,10,0,16,10,200,8");
        due("DEPTH", x.depth(0, 0, 0, 0), 10);
        tell(x, "size 4,3;tile 3;many 2;check 0,0,20,16,0,30,0,16,20,100,8", 0);
        due("DEPTH at 2, 2", x.depth(0, 0, 0, 0), 21);
        due("another PATTERN", x.shade(0, 1, 0), 155);
        due("other SAMPLES", x.mask(0, 0, 0), 3);
        due("other z", x.triangle(0, 5) * 100 + x.triangle(0, 6), 2030);
        due("other TILES", x.triangle(0, 7), 1);
        tell(x, "size 4,4;tile 2;flat 0,0,20,16,0,30,0,16,20,100,8", 0);
        due("TILES again", x.triangle(0, 7), 7);
    }

    private static void rule() {
        promise = "6";
        TileLights x = scene(TINY);
        int[] without = {8, 8, 4, 1, 0, 0, 0, 1, 10, 4};
        for (int i = 0; i < 10; i++) due("rule(" + i + ") without clauses", x.rule(i), without[i]);
        x = scene("size 7,5;tile 3;many 2;back 9;cull 2;test 1;late 0;room 4;" + TINY);
        int[] with = {7, 5, 3, 2, 9, 2, 1, 0, 4, 6};
        for (int i = 0; i < 10; i++) due("rule(" + i + ")", x.rule(i), with[i]);
        due("rule(10)", x.rule(10), NONE);
        due("rule(-1)", x.rule(-1), NONE);
        x.set(0, 1);
        x.set(3, 9);
        due("rule(5) as set", x.rule(5), 1);
        due("rule(8) as set", x.rule(8), 9);
        due("TILES of 8, 8 by 2", scene("tile 2;" + TINY).rule(9), 16);
        due("TILES of 8, 8 by 3", scene("tile 3;" + TINY).rule(9), 9);
        due("no SCENE", new TileLights().rule(9), NONE);
    }

    private static void noTriangle(TileLights x, int triangle, int what) {
        boolean thrown = false;
        try {
            x.triangle(triangle, what);
        } catch (NoSuchElementException e) {
            thrown = e.getClass() == NoSuchElementException.class;
        }
        due("triangle(" + triangle + ", " + what + ") throws", thrown);
    }

    private static void triangle() {
        promise = "7";
        TileLights x = scene(FRAME + HALF + ";rows 0,0,7,0,32,3,32,0,5,44,6;deep 0,0,1,8,8,2,16,16,3,1,8");
        int[] half = {1024, 8, 200, 0, 0, 10, 10, 15, 8, 6, 0, 0};
        for (int i = 0; i < half.length; i++) due("triangle(0, " + i + ")", x.triangle(0, i), half[i]);
        int[] other = {-1024, 6, 44, 2, 0, 3, 7, 15, 8, 6, 0, 0};
        for (int i = 0; i < other.length; i++) due("triangle(1, " + i + ")", x.triangle(1, i), other[i]);
        int[] none = {0, 8, 1, 3, 1, 1, 3, 0, 0, 0, 0, 0};
        for (int i = 0; i < none.length; i++) due("triangle(2, " + i + ")", x.triangle(2, i), none[i]);
        x.draw(0);
        x.draw(0);
        due("how often in BINS", x.triangle(0, 11), 8);
        x.all();
        due("SHADED", x.triangle(0, 10), 6);
        x.set(0, 1);
        due("CULLED by 1", x.triangle(1, 4) * 10 + x.triangle(0, 4), 10);
        due("a CULLED one TOUCHES", x.triangle(1, 7), 0);
        due("a CULLED one TOUCHES in vain", x.triangle(1, 8), 0);
        due("a CULLED one COVERS", x.triangle(1, 9), 0);
        x.set(0, 2);
        due("CULLED by 2", x.triangle(1, 4) * 10 + x.triangle(0, 4), 1);
        for (int bad : new int[] {-1, 3, 10, MIN, MAX}) noTriangle(x, bad, 0);
        for (int bad : new int[] {-1, 12, MIN, MAX}) noTriangle(x, 0, bad);
        noTriangle(new TileLights(), 0, 0);
        // Its corner at 16, 16 lies on the corner of four TILES: the border belongs to each.
        x = scene(FRAME + "flat 16,16,1,24,16,1,16,24,1,1,8");
        due("on the corner of TILES", x.triangle(0, 7), 15);
        due("COVERS no SAMPLE: the one at 20, 20 lies on its far side", x.triangle(0, 8), 15);
        x = scene(FRAME + "flat 17,17,1,24,17,1,17,24,1,1,8");
        due("inside of a TILE", x.triangle(0, 7), 8);
        // Its box meets all TILES, its long EDGE (on 0, 34 to 34, 0) leaves TILE 3 by itself no corner below 0 but three.
        due("an EDGE near a corner", scene(FRAME + "flat 0,0,1,31,0,1,0,31,1,1,8").triangle(0, 7), 7);
        due("an EDGE beyond a corner", scene(FRAME + "flat 0,0,1,33,0,1,0,33,1,1,8").triangle(0, 7), 15);
        due("DEPTH 0 is COVERED, too", scene(FRAME + "flat 0,0,0,15,0,0,0,15,0,1,8").triangle(0, 8), 0);
        // The least AREA that there is, with a CORNER in a CENTRE.
        TileLights least = scene(FRAME + "flat 4,4,1,5,4,1,4,5,1,1,8;flat 4,4,1,4,5,1,5,4,1,1,8");
        due("AREA", least.triangle(0, 0) * 10 + least.triangle(1, 0), 9);
        due("it COVERS", least.triangle(0, 9) * 10 + least.triangle(1, 9), 11);
        least.set(0, 1);
        due("CULLED by 1", least.most(7), 2);
        least.set(0, 2);
        due("CULLED by 2", least.most(7), 1);
        due("left of all", scene(FRAME + "flat -9,0,1,-1,0,1,-9,9,1,1,8").triangle(0, 7), 0);
        due("right of all", scene(FRAME + "flat 33,0,1,44,0,1,33,9,1,1,8").triangle(0, 7), 0);
        due("at the right border", scene(FRAME + "flat 32,0,1,44,0,1,32,9,1,1,8").triangle(0, 7), 2);
        due("at the lower border", scene(FRAME + "flat 0,32,1,9,32,1,0,44,1,1,8").triangle(0, 7), 4);
    }

    private static void cornerAndEdge() {
        promise = "8";
        TileLights x = scene(FRAME + "flat 1,2,3,4,-5,6,-7,8,9,1,8;" + HALF);
        int[] told = {1, 2, 3, 4, -5, 6, -7, 8, 9};
        for (int i = 0; i < 9; i++) due("corner(0, " + i / 3 + ", " + i % 3 + ")", x.corner(0, i / 3, i % 3), told[i]);
        x.move(0, 2, 7, -8);
        due("as now", x.corner(0, 2, 0), 0);
        due("as now", x.corner(0, 2, 1), 0);
        due("no such one", x.corner(2, 0, 0), HIDDEN);
        due("no such one", x.corner(-1, 0, 0), HIDDEN);
        due("no such CORNER", x.corner(0, 3, 0), HIDDEN);
        due("no such CORNER", x.corner(0, -1, 0), HIDDEN);
        due("no such what", x.corner(0, 0, 3), HIDDEN);
        due("no such what", x.corner(0, 0, MIN), HIDDEN);
        promise = "9";
        x = scene(FRAME + HALF + ";flat 0,0,7,0,32,3,32,0,5,44,6;flat 0,0,1,8,8,2,16,16,3,1,8");
        for (int t = 0; t < 2; t++) {
            // As TURNED both go from 0, 0 to 32, 0 to 0, 32.
            due("edge 0", x.edge(t, 0, 5, 7), 32 * 7);
            due("edge 1", x.edge(t, 1, 5, 7), -32 * 7 - 32 * (5 - 32));
            due("edge 2", x.edge(t, 2, 5, 7), 32 * 5);
        }
        due("AREA 0 is not TURNED", x.edge(2, 0, 0, 8), 64);
        due("at the bounds", x.edge(0, 0, -99, 160), 32 * 160);
        due("at the bounds", x.edge(0, 2, 160, -99), 32 * 160);
        due("beyond", x.edge(0, 0, -100, 0), HIDDEN);
        due("beyond", x.edge(0, 0, 0, 161), HIDDEN);
        due("beyond", x.edge(0, 0, 161, 0), HIDDEN);
        due("beyond", x.edge(0, 0, 0, -100), HIDDEN);
        due("no such EDGE", x.edge(0, 3, 0, 0), HIDDEN);
        due("no such EDGE", x.edge(0, -1, 0, 0), HIDDEN);
        due("no such one", x.edge(3, 0, 0, 0), HIDDEN);
        due("no such one", x.edge(MAX, 0, 0, 0), HIDDEN);
    }

    private static void maskAndDepth() {
        promise = "10";
        TileLights x = scene(FRAME + HALF + ";flat 32,32,1,0,32,1,32,0,1,1,8");
        for (int i = 0; i < 16; i++) {
            int sum = i % 4 + i / 4;
            due("mask(0) at " + i, x.mask(0, i % 4, i / 4), sum < 3 ? 1 : 0);
            due("mask(1) at " + i, x.mask(1, i % 4, i / 4), sum < 3 ? 0 : 1);
        }
        due("no such PIXEL", x.mask(0, 4, 0), NONE);
        due("no such PIXEL", x.mask(0, 0, 4), NONE);
        due("no such PIXEL", x.mask(0, -1, 0), NONE);
        due("no such one", x.mask(2, 0, 0), NONE);
        x.set(0, 2);
        due("CULLED", x.mask(0, 0, 0), 0);
        promise = "11";
        // DEPTH grows by one in each eighth to the right from 0, and by two downward.
        x = scene(FRAME + "flat 0,0,0,64,0,64,0,64,128,1,8;flat 0,0,0,0,64,128,64,0,64,1,8;flat 0,0,1,7,0,1,0,7,0,1,8");
        due("depth(0, 0, 0, 0)", x.depth(0, 0, 0, 0), 12);
        due("depth(0, 3, 2, 0)", x.depth(0, 3, 2, 0), 28 + 40);
        due("TURNED", x.depth(1, 3, 2, 0), 28 + 40);
        due("down to the whole", x.depth(2, 0, 0, 0), NONE);
        due("no such SAMPLE", x.depth(0, 0, 0, 1), NONE);
        due("no such SAMPLE", x.depth(0, 0, 0, -1), NONE);
        due("no such PIXEL", x.depth(0, 0, 4, 0), NONE);
        due("no such one", x.depth(3, 0, 0, 0), NONE);
        x.set(0, 2);
        due("CULLED", x.depth(0, 0, 0, 0), NONE);
        // z goes from 1 to 0 over 16 eighths: three quarters at 4 is down to 0.
        due("down", scene(FRAME + "flat 0,0,1,16,0,0,0,16,1,1,8").depth(0, 0, 0, 0), 0);
    }

    private static void samplesOfPixels() {
        promise = "10";
        // Right of x 4, down to y 64: of two the one at 6 6; of four those at 7 3, 5 7.
        String right = "flat 4,-64,1,99,-64,1,4,160,1,1,8";
        due("one, on an upright EDGE that goes down", scene("size 1,1;" + right).mask(0, 0, 0), 1);
        due("two", scene("size 1,1;many 2;" + right).mask(0, 0, 0), 2);
        due("four", scene("size 1,1;many 4;" + right).mask(0, 0, 0), 10);
        String lower = "flat -64,4,1,160,4,1,-64,99,1,1,8";
        due("one below", scene("size 1,1;" + lower).mask(0, 0, 0), 1);
        due("two below", scene("size 1,1;many 2;" + lower).mask(0, 0, 0), 2);
        due("four below", scene("size 1,1;many 4;" + lower).mask(0, 0, 0), 12);
        String leftOf = "flat 4,-64,1,4,160,1,-99,-64,1,1,8";
        due("one, an EDGE that goes down is not HIGH", scene("size 1,1;" + leftOf).mask(0, 0, 0), 0);
        due("two, left", scene("size 1,1;many 2;" + leftOf).mask(0, 0, 0), 1);
        due("four, left", scene("size 1,1;many 4;" + leftOf).mask(0, 0, 0), 5);
        String above = "flat 160,4,1,-64,4,1,-64,-99,1,1,8";
        due("one, a level EDGE that goes left is not HIGH", scene("size 1,1;" + above).mask(0, 0, 0), 0);
        due("four, above", scene("size 1,1;many 4;" + above).mask(0, 0, 0), 3);
    }

    private static void shade() {
        promise = "12";
        TileLights x = scene("size 3,3;flat 0,0,1,24,0,1,0,24,1,77,8;check 0,0,1,24,0,1,0,24,1,77,8;"
            + "rows 0,0,1,24,0,1,0,24,1,77,8;deep 0,0,0,16,0,64,0,16,0,77,8;deep 0,0,999,24,0,999,0,24,999,77,8;flat 0,0,1,8,8,1,16,16,1,7,8");
        due("flat", x.shade(0, 1, 2), 77);
        due("check, even", x.shade(1, 1, 1), 77);
        due("check, odd", x.shade(1, 1, 2), 178);
        due("rows, even", x.shade(2, 1, 2), 77);
        due("rows, odd", x.shade(2, 2, 1), 38);
        // DEPTH is 4 times x: 16 at the first CENTRE, 48 at the second, 80 at the third.
        due("deep", x.shade(3, 0, 0), 77 - 4);
        due("deep", x.shade(3, 1, 0), 77 - 12);
        due("deep, not covered", x.shade(3, 2, 2), 77 - 20);
        due("held at 0", x.shade(4, 0, 0), 0);
        due("AREA 0", x.shade(5, 0, 0), NONE);
        due("no such PIXEL", x.shade(0, 3, 0), NONE);
        due("no such PIXEL", x.shade(0, 0, -1), NONE);
        due("no such one", x.shade(6, 0, 0), NONE);
        x.set(0, 2);
        due("CULLED, with an AREA", x.shade(1, 1, 2), 178);
        x = scene("size 8,1;deep 0,0,400,8,0,1,0,8,400,250,8;deep 0,0,3,16,0,2,0,16,2,100,8");
        // DEPTH is 400 less 49.875 times x: at 60 it is -2592.5, down to -2593; a quarter of it down to -649.
        due("held at 255", x.shade(0, 7, 0), 255);
        // 3 less a sixteenth of 4 and 4 added up is 2.5; a quarter of 2 down to 0; far right 3 less 64/16 is -1: down to -1.
        due("a quarter down", x.shade(1, 0, 0), 100);
        due("a quarter below 0 goes down", x.shade(1, 7, 0), 101);
    }

    private static void sampleAndPixel() {
        promise = "13";
        TileLights x = scene("size 2,2;many 2;back 9;" + full("flat", 70, 100, 8));
        due("DEPTH at first", x.sample(1, 1, 1, 0), 1000);
        due("COLOR at first", x.sample(1, 1, 1, 1), 9);
        due("none PENDING", x.sample(1, 1, 1, 2), NONE);
        x.draw(0);
        due("in a BIN only", x.sample(0, 0, 0, 0), 1000);
        x.all();
        due("DEPTH", x.sample(1, 0, 1, 0), 70);
        due("COLOR", x.sample(1, 0, 1, 1), 100);
        due("none PENDING behind a FLUSH", x.sample(1, 0, 1, 2), NONE);
        due("no such what", x.sample(0, 0, 0, 3), HIDDEN);
        due("no such what", x.sample(0, 0, 0, -1), HIDDEN);
        due("no such SAMPLE", x.sample(0, 0, 2, 0), HIDDEN);
        due("no such SAMPLE", x.sample(0, 0, -1, 0), HIDDEN);
        due("no such PIXEL", x.sample(2, 0, 0, 0), HIDDEN);
        due("no such PIXEL", x.sample(0, MIN, 0, 0), HIDDEN);
        promise = "14";
        // Only the SAMPLE at 6 6 is covered: 101 and 9 by 2, and of four those at 7 3, 5 7: twice 101, twice 8, by 4, cut.
        String right = "flat 4,-64,1,99,-64,1,4,160,1,101,8";
        x = scene("size 1,1;many 2;back 8;" + right);
        x.draw(0);
        x.all();
        due("the mean of two, cut", x.pixel(0, 0), 54);
        x = scene("size 1,1;many 4;back 8;" + right);
        x.draw(0);
        due("as now", x.pixel(0, 0), 8);
        x.all();
        due("the mean of four, cut", x.pixel(0, 0), 54);
        due("no such PIXEL", x.pixel(1, 0), NONE);
        due("no such PIXEL", x.pixel(0, 1), NONE);
        due("no such PIXEL", x.pixel(-1, 0), NONE);
        due("no such PIXEL", x.pixel(MAX, MAX), NONE);
    }

    private static void tileAndBin() {
        promise = "15";
        TileLights x = scene(FRAME + HALF);
        x.draw(0);
        x.draw(0);
        due("in its BIN", x.tile(3, 0), 2);
        due("FAR", x.tile(0, 1), 1000);
        due("NEAR", x.tile(0, 2), 1000);
        x.all();
        due("FAR, all covered but one", x.tile(0, 1), 10);
        due("FAR", x.tile(1, 1), 1000);
        due("NEAR", x.tile(1, 2), 10);
        due("NEAR of TILE 3", x.tile(3, 2), 1000);
        due("none PENDING", x.tile(0, 3), 0);
        due("PIXELS", x.tile(0, 4), 4);
        due("no such what", x.tile(0, 5), NONE);
        due("no such what", x.tile(0, -1), NONE);
        due("no such TILE", x.tile(4, 0), NONE);
        due("no such TILE", x.tile(-1, 0), NONE);
        promise = "16";
        x = scene(FRAME + HALF + ";" + HALF);
        x.draw(1);
        x.draw(0);
        x.draw(1);
        due("bin(3, 0)", x.bin(3, 0), 1);
        due("bin(3, 1)", x.bin(3, 1), 0);
        due("bin(3, 2)", x.bin(3, 2), 1);
        due("bin(3, 3)", x.bin(3, 3), NONE);
        due("bin(3, -1)", x.bin(3, -1), NONE);
        due("bin(4, 0)", x.bin(4, 0), NONE);
        due("bin(MIN, 0)", x.bin(MIN, 0), NONE);
        x.flush(3);
        due("empty", x.bin(3, 0), NONE);
        promise = "17";
        x = scene(FRAME + HALF);
        due("not yet", x.shaded(0), 0);
        x.draw(0);
        x.all();
        due("bits of PIXELS", x.shaded(0), 1L | 2L | 4L | 1L << 8 | 1L << 9 | 1L << 16);
        due("no such one", x.shaded(1), 0);
        due("no such one", x.shaded(-1), 0);
        due("the highest bit", lastPixel().shaded(0), 1L << 63);
    }

    private static TileLights lastPixel() {
        TileLights x = scene("flat 56,56,1,72,56,1,56,72,1,9,8");
        x.draw(0);
        x.flush(3);
        return x;
    }

    private static void cutTiles() {
        promise = "15";
        TileLights x = scene("size 7,5;tile 3;flat 56,0,1,60,0,1,56,9,1,1,8;flat 57,0,1,60,0,1,57,9,1,1,8;flat 0,40,1,9,40,1,0,44,1,1,8;flat 0,41,1,9,41,1,0,44,1,1,8");
        int[] pixels = {9, 9, 3, 6, 6, 2};
        for (int i = 0; i < 6; i++) due("PIXELS of TILE " + i, x.tile(i, 4), pixels[i]);
        due("a TILE that is cut off ends where the frame does", x.triangle(0, 7), 4);
        due("beyond it", x.triangle(1, 7), 0);
        due("likewise below", x.triangle(2, 7), 8);
        due("beyond it", x.triangle(3, 7), 0);
    }

    private static void draw() {
        promise = "18";
        TileLights x = scene(FRAME + HALF + ";flat 0,0,1,8,8,1,16,16,1,7,8;flat 33,0,1,44,0,1,33,9,1,1,8");
        due("draw(0)", x.draw(0), 4);
        due("draw(1), AREA 0", x.draw(1), NONE);
        due("draw(2), it TOUCHES none", x.draw(2), NONE);
        due("status(2)", x.status(2), 2);
        due("draw(3)", x.draw(3), NONE);
        due("draw(-1)", x.draw(-1), NONE);
        due("status(0)", x.status(0), 2);
        due("what was refused is no ACT", x.count(4), 1);
        x.set(0, 2);
        due("CULLED", x.draw(0), NONE);
        due("status(2)", x.status(2), 3);
        due("it stays in the BINS", x.triangle(0, 11), 4);
    }

    private static void fullBin() {
        promise = "18";
        TileLights x = scene("size 4,2;tile 2;room 2;flat 0,0,5,16,0,5,0,16,5,50,8;" + full("flat", 9, 100, 8));
        x.draw(0);
        x.draw(1);
        due("two in TILE 0", x.tile(0, 0), 2);
        due("two in TILE 1, which it TOUCHES with a corner", x.tile(1, 0), 2);
        due("into both", x.draw(1), 2);
        due("FLUSHED first, then one is in the BIN", x.tile(0, 0) * 10 + x.tile(1, 0), 11);
        due("two FLUSHES", x.most(3), 2);
        due("nearer", x.pixel(0, 0), 50);
        due("farther", x.pixel(3, 1), 100);
        x.draw(0);
        due("room 2 again", x.tile(0, 0), 2);
        x.set(3, 1);
        due("more than room in it", x.draw(1), 2);
        due("both are FLUSHED", x.tile(0, 0) * 10 + x.tile(1, 0), 11);
        due("FLUSHES", x.most(3), 4);
    }

    private static void flush() {
        promise = "19";
        TileLights x = scene(FRAME + HALF);
        due("an empty BIN", x.flush(0), NONE);
        due("status(2)", x.status(2), 1);
        due("no such TILE", x.flush(4), NONE);
        due("no such TILE", x.flush(-1), NONE);
        due("status(0)", x.status(0), 2);
        x.draw(0);
        x.draw(0);
        due("flush(1)", x.flush(1), 2);
        due("only this TILE", x.pixel(2, 0) * 1000L + x.pixel(0, 0), 200000);
        due("again", x.flush(1), NONE);
        due("flush(3) COVERS none", x.flush(3), 2);
        due("TESTED: one PIXEL, twice", x.most(2), 2);
        due("SKIPPED", x.most(1), 0);
        due("FLUSHES", x.most(3), 2);
    }

    private static void blending() {
        promise = "19";
        // 200 on 10 by 3 of 8: 600 and 50 by 8 is 81; then 200 again: 600 and 405 by 8 is 125.
        TileLights x = scene("size 1,1;tile 2;back 10;" + full("flat", 9, 200, 3) + ";" + full("flat", 9, 40, 8));
        x.draw(0);
        x.draw(0);
        x.all();
        due("blended twice", x.pixel(0, 0), 125);
        due("the DEPTH stays", x.sample(0, 0, 0, 0), 1000);
        due("it counts as SHADED", x.shaded(0), 1);
        x.draw(1);
        x.draw(0);
        x.all();
        due("as far as what is there: not seen", x.pixel(0, 0), 40);
        x.set(1, 1);
        x.draw(0);
        x.all();
        due("by test 1 it PASSES", x.pixel(0, 0), (200 * 3 + 40 * 5) / 8);
        x.clear();
        x.set(1, 0);
        // What is PENDING is SHADED ahead of what is blended on it, and by late 1 both count.
        x = scene("size 1,1;tile 2;back 10;" + full("flat", 9, 40, 8) + ";" + full("flat", 5, 200, 3));
        x.draw(0);
        x.draw(1);
        x.all();
        due("blended on what was PENDING", x.pixel(0, 0), 100);
        due("both are SHADED", x.most(0), 2);
    }

    private static void lateAndEarly() {
        promise = "19";
        String text = "size 1,1;tile 2;" + full("flat", 9, 40, 8) + ";" + full("flat", 5, 200, 8);
        TileLights x = scene(text);
        x.draw(0);
        x.draw(1);
        x.all();
        due("late: only what is seen", x.shaded(0) * 10 + x.shaded(1), 1);
        due("its COLOR", x.pixel(0, 0), 200);
        due("both were TESTED", x.most(2), 2);
        x = scene("late 0;" + text);
        x.draw(0);
        x.draw(1);
        x.all();
        due("early: both", x.shaded(0) * 10 + x.shaded(1), 11);
        due("its COLOR", x.pixel(0, 0), 200);
        x = scene(text);
        x.draw(0);
        x.flush(0);
        x.draw(1);
        x.flush(0);
        due("two FLUSHES: both", x.most(0), 2);
    }

    private static void skipping() {
        promise = "39";
        TileLights x = scene("size 1,1;tile 2;" + full("flat", 5, 40, 8) + ";" + full("flat", 5, 200, 8));
        x.draw(0);
        x.draw(1);
        x.draw(0);
        x.all();
        due("as far is behind", x.most(1), 2);
        due("TESTED once", x.most(2), 1);
        x.clear();
        x.set(1, 1);
        x.draw(0);
        x.draw(1);
        x.all();
        due("by test 1 it is not", x.most(1), 0);
        due("TESTED twice", x.most(2), 2);
        due("the later is seen", x.pixel(0, 0), 200);
        // Its least z is near enough, its DEPTH is not.
        x = scene("size 1,1;tile 2;" + full("flat", 5, 40, 8) + ";flat -16,-16,9,64,-16,9,-16,64,1,7,8");
        x.draw(0);
        x.draw(1);
        x.all();
        due("not SKIPPED", x.most(1), 0);
        due("DEPTH of it: 9 less 8 times 20 by 80", x.depth(1, 0, 0, 0), 7);
        due("TESTED, not seen", x.most(2) * 1000 + x.pixel(0, 0), 2040);
    }

    private static void allAndClear() {
        promise = "20";
        TileLights x = scene(FRAME + "back 3;" + HALF + ";flat 17,17,1,30,17,1,17,30,1,77,8");
        due("nothing in BINS", x.all(), 0);
        x.draw(1);
        due("one BIN", x.all(), 1);
        x.draw(0);
        x.draw(1);
        due("four BINS", x.all(), 4);
        due("FLUSHES that laid any", x.most(3), 5);
        due("an ACT each", x.count(5), 6);
        due("no SCENE", new TileLights().all(), NONE);
        promise = "21";
        x.set(2, 0);
        x.move(0, 0, 1, 1);
        x.draw(0);
        x.draw(0);
        due("how many in BINS", x.clear(), 8);
        due("none now", x.clear(), 0);
        due("SHADED", x.most(0), 0);
        due("SKIPPED", x.most(1), 0);
        due("TESTED", x.most(2), 0);
        due("FLUSHES", x.most(3), 0);
        due("COLOR", x.pixel(2, 2), 3);
        due("DEPTH", x.tile(3, 2), 1000);
        due("rules stay", x.rule(7), 0);
        due("CORNERS stay", x.corner(0, 0, 0), 1);
        due("the LOG stays", x.log(0, 0) * 10 + x.log(2, 0), 30);
        TileLights none = new TileLights();
        due("no SCENE", none.clear(), NONE);
        due("its STATUS", none.status(0), 1);
    }

    private static void set() {
        promise = "22";
        TileLights x = scene(TINY);
        due("cull", x.set(0, 2), 0);
        due("cull", x.set(0, 1), 2);
        due("test", x.set(1, 1), 0);
        due("late", x.set(2, 0), 1);
        due("room", x.set(3, 1), 10);
        due("room", x.set(3, 10), 1);
        due("it is so", x.set(0, 1), NONE);
        due("it is so", x.set(3, 10), NONE);
        due("status(2)", x.status(2), 2);
        for (int[] bad : new int[][] {{0, -1}, {0, 3}, {1, 2}, {1, -1}, {2, 2}, {2, -1}, {3, 0}, {3, 11}, {4, 0}, {-1, 0}, {MIN, 0}, {MAX, 0}, {0, MAX}}) {
            due("set(" + bad[0] + ", " + bad[1] + ")", x.set(bad[0], bad[1]), NONE);
        }
        due("status(1)", x.status(1), 13);
        due("ACTS", x.count(4), 6);
        TileLights none = new TileLights();
        due("no SCENE", none.set(9, 9), NONE);
        due("the first of several", none.status(0) * 10 + none.status(1), 10);
    }

    private static void culledInBin() {
        promise = "22";
        TileLights x = scene("size 1,1;tile 2;" + full("flat", 5, 40, 8));
        x.draw(0);
        x.set(0, 2);
        due("CULLED in its BIN", x.flush(0), 1);
        due("it COVERS nothing", x.most(2) + x.most(0), 0);
        due("it was laid", x.most(3), 1);
        due("it is not behind", x.most(1), 0);
    }

    private static void move() {
        promise = "23";
        TileLights x = scene(FRAME + "flat 150,0,1,160,0,1,-99,-90,1,1,8;" + HALF);
        due("AREA then", x.move(1, 1, -16, 0), 512);
        due("below 0", x.move(1, 1, -20, 0), -128);
        due("x then", x.corner(1, 1, 0), -4);
        due("y beyond", x.move(0, 2, 0, -10), HIDDEN);
        due("y at the bound", x.move(0, 2, 0, -9), 10 * -99);
        due("x beyond", x.move(0, 2, -1, 0), HIDDEN);
        due("x beyond", x.move(0, 1, 1, 0), HIDDEN);
        due("x at the bound", x.move(0, 0, 10, 0), 0);
        due("status(1)", x.status(1), 3);
        due("no such CORNER", x.move(1, 3, 1, 1), HIDDEN);
        due("no such CORNER", x.move(1, -1, 0, 0), HIDDEN);
        due("not -20 .. 20", x.move(1, 0, 21, 0), HIDDEN);
        due("not -20 .. 20", x.move(1, 0, 0, -21), HIDDEN);
        due("not -20 .. 20", x.move(1, 0, MIN, MAX), HIDDEN);
        due("status(1)", x.status(1), 8);
        due("by 0 both", x.move(1, 0, 0, 0), HIDDEN);
        due("status(2)", x.status(2), 1);
        due("no such TRIANGLE", x.move(2, 9, 99, 0), HIDDEN);
        due("no such TRIANGLE", x.move(-1, 0, 1, 0), HIDDEN);
        due("status(0)", x.status(0), 2);
        x.move(1, 1, 20, 0);
        x.draw(1);
        due("in a BIN", x.move(1, 0, 1, 0), HIDDEN);
        due("status(3)", x.status(3), 1);
        due("in a BIN, by 0", x.move(1, 0, 0, 0), HIDDEN);
        due("in a BIN, beyond", x.move(1, 0, 30, 0), HIDDEN);
        due("of several the first", x.status(1) * 100 + x.status(2) * 10 + x.status(3), 921);
        x.all();
        due("in no BIN", x.move(1, 1, 16, 0), 1024);
        due("it COVERS as it lies now", x.triangle(1, 9), 6);
        due("-20 and 20", x.move(1, 2, 20, -20), 32 * 12);
    }

    private static void years() {
        promise = "24";
        TileLights x = scene(FRAME + HALF);
        due("n 0", x.years(0, 1L), NONE);
        due("n 41", x.years(41, 1L), NONE);
        due("n below", x.years(MIN, 1L), NONE);
        due("no SCENE", new TileLights().years(1, 1L), NONE);
        due("no STATUS", x.status(0) + x.status(1) + x.status(2), 0);
        for (long seed : new long[] {0L, 1L, -1L, 12345678901234L, Long.MIN_VALUE}) sameYears(seed);
    }

    /** What YEARS do by a seed, done by hand. */
    private static void sameYears(long seed) {
        String text = FRAME + HALF + ";" + full("rows", 20, 90, 5) + ";deep 3,3,20,30,9,5,4,31,7,99,8";
        TileLights x = scene(text);
        TileLights y = scene(text);
        long[] chance = {seed};
        int acts = 0;
        for (int i = 0; i < 40; i++) {
            int sort = draw(chance, 8);
            int before = y.count(4);
            if (sort < 5) y.draw(draw(chance, 3));
            else if (sort == 5) y.flush(draw(chance, 4));
            else if (sort == 6) y.set(2, 1 - y.rule(7));
            else y.move(draw(chance, 3), draw(chance, 3), draw(chance, 9) - 4, draw(chance, 9) - 4);
            acts += y.count(4) - before;
        }
        due("years(40, " + seed + ")", x.years(40, seed), y.most(0));
        due("ACTS", x.count(5), acts);
        due("no STATUS", x.status(0) + x.status(1) + x.status(2) + x.status(3), 0);
        for (int i = 0; i < acts; i++) {
            for (int what = 0; what < 3; what++) due("log(" + i + ", " + what + ") of years", x.log(i, what), y.log(i, what));
        }
        for (int i = 0; i < 16; i++) due("pixel " + i + " of years", x.pixel(i % 4, i / 4), y.pixel(i % 4, i / 4));
        for (int what = 0; what < 10; what++) due("most(" + what + ") of years", x.most(what), y.most(what));
    }

    private static int draw(long[] x, int j) {
        x[0] = x[0] * 6364136223846793005L + 1442695040888963407L;
        return (int) ((x[0] >>> 33) % j);
    }

    private static void status() {
        promise = "25";
        TileLights x = scene(FRAME + HALF);
        x.draw(1);
        x.draw(0);
        x.set(0, 7);
        x.set(0, 8);
        x.move(0, 0, 1, 1);
        for (int i = 0; i < 4; i++) x.set(0, 0);
        x.undo();
        int[] want = {1, 2, 4, 1};
        for (int i = 0; i < 4; i++) due("status(" + i + ")", x.status(i), want[i]);
        due("status(4)", x.status(4), NONE);
        due("status(-1)", x.status(-1), NONE);
        due("status(MIN)", x.status(MIN), NONE);
        x.image();
        x.set(0, 0);
        x.back();
        due("BACK leaves it", x.status(2), 5);
    }

    private static void undo() {
        promise = "26";
        TileLights x = scene(FRAME + HALF);
        x.draw(0);
        x.all();
        x.set(1, 1);
        x.move(0, 1, -16, 0);
        x.clear();
        due("CLEAR is UNDONE", x.undo(), 4);
        due("SAMPLES", x.pixel(0, 0), 200);
        due("counts", x.most(3), 4);
        due("a move is UNDONE", x.undo(), 3);
        due("CORNERS", x.triangle(0, 0), 1024);
        due("what it COVERS", x.triangle(0, 9), 6);
        due("a rule is UNDONE", x.undo(), 2);
        due("the rule", x.rule(6), 0);
        due("a FLUSH is UNDONE", x.undo(), 1);
        due("BINS", x.triangle(0, 11), 4);
        due("SHADED", x.most(0), 0);
        due("DEPTH", x.tile(0, 2), 1000);
        due("the LOG", x.count(4), 1);
        due("a draw is UNDONE", x.undo(), 0);
        due("BINS", x.most(9), 0);
        due("none", x.undo(), NONE);
        x.draw(0);
        x.draw(0);
        x.image();
        x.all();
        due("SKIPPED, TESTED, FLUSHES", x.most(1) * 100 + x.most(2) * 10 + x.most(3), 184);
        x.clear();
        x.undo();
        due("they are again as they were", x.most(1) * 100 + x.most(2) * 10 + x.most(3), 184);
        x.undo();
        due("and as they were ahead", x.most(1) + x.most(2) + x.most(3), 0);
        x.all();
        x.back();
        due("by BACK, too", x.most(1) + x.most(2) + x.most(3), 0);
        x = scene(FRAME + HALF);
        for (int i = 0; i < 45; i++) x.set(2, i % 2);
        due("40 at most", x.count(5), 40);
        for (int i = 39; i >= 0; i--) due("undo()", x.undo(), i);
        due("no more", x.undo(), NONE);
        due("five are left", x.count(4), 5);
        due("late of the fifth", x.rule(7), 0);
    }

    private static void log() {
        promise = "27";
        TileLights x = scene("size 2,2;tile 2;" + full("flat", 5, 40, 8) + ";" + full("flat", 3, 50, 8));
        x.draw(1);
        x.flush(0);
        x.all();
        x.set(3, 4);
        x.move(1, 2, 0, -1);
        x.clear();
        int[][] want = {{3, 0, 0}, {5, 1, 4}, {4, 3, 4}, {2, 0, 4}, {1, 0, 4}, {0, 1, 0}};
        for (int i = 0; i < 6; i++) {
            for (int what = 0; what < 3; what++) due("log(" + i + ", " + what + ")", x.log(i, what), want[i][what]);
        }
        due("log(6, 0)", x.log(6, 0), NONE);
        due("log(-1, 0)", x.log(-1, 0), NONE);
        due("log(0, 3)", x.log(0, 3), NONE);
        due("log(0, -1)", x.log(0, -1), NONE);
        for (int i = 0; i < 70; i++) x.set(3, 1 + i % 10);
        due("the latest 60", x.count(4), 60);
        due("log(59, 0)", x.log(59, 0), 4);
        due("log(60, 0)", x.log(60, 0), NONE);
        x = scene(FRAME + HALF);
        x.draw(0);
        for (int i = 0; i < 59; i++) x.set(2, i % 2);
        due("the first ACT", x.log(59, 0), 0);
        x.set(2, 1);
        due("it is gone", x.log(59, 0), 4);
        x.undo();
        due("it is there again", x.log(59, 0), 0);
        for (int i = 0; i < 10; i++) x.set(2, 1 - x.rule(7));
        for (int i = 0; i < 10; i++) x.undo();
        due("and again", x.log(59, 0), 0);
        x.undo();
        due("the LOG shrinks", x.count(4), 59);
    }

    private static void step() {
        promise = "28";
        TileLights x = new TileLights();
        tell(x, "draw 9;flush 15;all;clear;cull 2;test 1;late 0;room 10;move 8,2,-20,19", 1);
        int[][] want = {{0, 9}, {1, 15}, {2}, {3}, {4, 2}, {5, 1}, {6, 0}, {7, 10}, {8, 8, 2, -20, 19}};
        for (int i = 0; i < want.length; i++) {
            for (int what = 0; what <= 5; what++) {
                due("step(0, " + i + ", " + what + ")", x.step(0, i, what), what < want[i].length ? want[i][what] : HIDDEN);
            }
        }
        due("no such SCRIPT", x.step(1, 0, 0), HIDDEN);
        due("no such SCRIPT", x.step(-1, 0, 0), HIDDEN);
        due("no such STEP", x.step(0, 9, 0), HIDDEN);
        due("no such STEP", x.step(0, -1, 0), HIDDEN);
        due("no such what", x.step(0, 0, -1), HIDDEN);
        feed(x, "all;all");
        x.fault(1);
        due("what is only read is no SCRIPT", x.step(1, 0, 0), HIDDEN);
    }

    private static void runAndPerform() {
        promise = "29";
        TileLights x = new TileLights();
        due("no SCRIPT", x.run(0, 0), HIDDEN);
        tell(x, "draw 0;move 1,0,1,0;all;late 0;room 10;clear", 1);
        tell(x, "draw 0;all", 1);
        due("no SCENE", x.run(0, 0), HIDDEN);
        promise = "30";
        due("no SCENE", x.perform(0), NONE);
        promise = "29";
        tell(x, FRAME + HALF + ";" + HALF, 0);
        due("room is so", x.run(0, 0), 4);
        due("pairs", x.run(0, 1), 6);
        due("all can be", x.run(1, 0), NONE);
        due("pairs", x.run(1, 1), 6);
        due("apart", x.most(0) + x.count(4) + x.count(5) + x.most(9), 0);
        due("CORNERS are as they were", x.corner(1, 0, 0), 0);
        due("what it COVERS, too", x.edge(1, 0, 0, 0), 0);
        due("no such what", x.run(0, 2), HIDDEN);
        due("no such what", x.run(0, -1), HIDDEN);
        due("no such SCRIPT", x.run(2, 0), HIDDEN);
        due("no such SCRIPT", x.run(-1, 0), HIDDEN);
        promise = "30";
        due("perform(0)", x.perform(0), 4);
        due("ACTS", x.count(5), 4);
        due("no STATUS", x.status(2), 0);
        due("a rule", x.rule(7), 0);
        due("a CORNER", x.corner(1, 0, 0), 1);
        due("pairs", x.most(0), 6);
        due("the LOG", x.log(0, 0) * 1000 + x.log(1, 0) * 100 + x.log(2, 0) * 10 + x.log(3, 0), 4250);
        due("again: late is so", x.perform(0), 3);
        due("no such SCRIPT", x.perform(2), NONE);
        due("no such SCRIPT", x.perform(-1), NONE);
        tell(x, "draw 7", 1);
        due("none can be", x.perform(2), 0);
        due("behind none", x.run(2, 0), 0);
    }

    private static void layer() {
        promise = "31";
        TileLights x = scene("size 2,2;tile 2;many 2;" + full("flat", 5, 40, 8) + ";" + full("rows", 3, 40, 2) + ";" + full("flat", 5, 40, 8)
            + ";flat -16,-16,1,-16,64,1,64,-16,1,9,8;flat 8,8,0,16,8,0,8,16,0,9,8");
        int[] want = {3, 1, 0, 2, NONE};
        for (int i = 0; i < 5; i++) due("layer(0, 0, 0, " + i + ")", x.layer(0, 0, 0, i), want[i]);
        due("the nearest there", x.layer(1, 1, 0, 0), 4);
        due("by its far side not", x.layer(1, 1, 1, 0), 3);
        x.set(0, 1);
        due("without CULLED ones", x.layer(0, 0, 0, 0), 1);
        due("i -1", x.layer(0, 0, 0, -1), NONE);
        due("no such SAMPLE", x.layer(0, 0, 2, 0), NONE);
        due("no such PIXEL", x.layer(2, 0, 0, 0), NONE);
        due("no such PIXEL", x.layer(0, -1, 0, 0), NONE);
    }

    private static void shownAndWhole() {
        promise = "32";
        TileLights x = scene("size 2,2;tile 2;back 7;" + full("flat", 5, 40, 8) + ";" + full("flat", 3, 80, 4));
        due("nothing in BINS", x.shown(0, 0), 7);
        x.draw(1);
        due("were it FLUSHED", x.shown(1, 1), (80 * 4 + 7 * 4) / 8);
        due("not FLUSHED", x.pixel(1, 1), 7);
        due("apart", x.tile(0, 0) * 10 + x.most(3), 10);
        due("no such PIXEL", x.shown(2, 0), NONE);
        due("no such PIXEL", x.shown(0, -1), NONE);
        promise = "33";
        due("in the order of their numbers", x.whole(1, 1), 60);
        due("apart", x.tile(0, 0) * 10 + x.most(3), 10);
        x.set(0, 2);
        due("rules as now", x.whole(1, 1), 7);
        due("no such PIXEL", x.whole(0, 2), NONE);
        due("no such PIXEL", x.whole(MIN, 0), NONE);
        // With room 1 a later FLUSH leaves the frame as it is; the move counts.
        x = scene(FRAME + "room 1;" + HALF + ";" + HALF.replace("200", "100").replace("10,", "11,"));
        x.move(0, 1, -16, 0);
        due("CORNERS as now", x.whole(2, 0), 100);
        due("the nearer one", x.whole(0, 0), 200);
    }

    private static void sharedAndBorder() {
        promise = "34";
        TileLights x = scene(FRAME + HALF + ";flat 32,32,1,0,32,1,32,0,1,1,8;flat 0,0,1,16,0,1,0,16,1,1,8;flat 32,0,1,0,32,1,32,32,1,5,8");
        due("both", x.shared(0, 1, 0), 0);
        due("just one", x.shared(0, 1, 1), 16);
        due("both", x.shared(0, 2, 0), 1);
        due("just one", x.shared(2, 0, 1), 5);
        due("itself", x.shared(0, 0, 0) * 10 + x.shared(0, 0, 1), 60);
        due("no such what", x.shared(0, 1, 2), NONE);
        due("no such what", x.shared(0, 1, -1), NONE);
        due("no such one", x.shared(4, 0, 0), NONE);
        due("no such one", x.shared(0, -1, 0), NONE);
        promise = "35";
        due("SAMPLES on it", x.border(0, 1, 0), 4);
        due("just one", x.border(0, 1, 1), 4);
        due("both", x.border(0, 1, 2), 0);
        due("two that lie alike", x.border(1, 3, 2), 4);
        due("two that lie alike", x.border(1, 3, 1), 0);
        due("inside of the other", x.border(0, 2, 0), 0);
        due("no such what", x.border(0, 1, 3), NONE);
        due("no such what", x.border(0, 1, -1), NONE);
        due("no such one", x.border(0, 4, 0), NONE);
        due("no such one", x.border(MIN, 0, 0), NONE);
        x.set(0, 2);
        due("CULLED: none COVERED", x.shared(0, 1, 1), 0);
        TileLights one = scene("size 1,1;flat 0,0,0,8,0,0,0,8,0,1,8;flat 8,8,0,0,8,0,8,0,0,1,8");
        due("one SAMPLE on it", one.border(0, 1, 0) * 100 + one.border(0, 1, 1) * 10 + one.border(0, 1, 2), 110);
        due("CULLED: no BORDER", x.border(0, 1, 0), 0);
        x = scene(FRAME + HALF + ";flat 32,32,1,32,0,1,0,32,1,1,8");
        due("one TURNED", x.border(0, 1, 0), 4);
        x.set(0, 1);
        due("one CULLED: no BORDER", x.border(0, 1, 0) + x.border(1, 0, 0) + x.border(0, 1, 1), 0);
        due("but SAMPLES that the other COVERS", x.shared(0, 1, 1), 6);
    }

    private static void leftHidesSaved() {
        promise = "36";
        String text = "size 2,2;tile 2;" + full("flat", 5, 40, 8) + ";flat 0,0,9,16,0,9,0,16,9,77,8;flat 0,0,1,16,0,1,0,16,1,40,8;flat 16,16,1,0,16,1,16,0,1,50,4";
        TileLights x = scene(text);
        due("behind a nearer one", x.left(1), 0);
        due("of the same COLOR", x.left(2), 0);
        due("blended", x.left(3), 3);
        // Without it the one with 77 is seen only where 2 does not lie, that is nowhere; back shows in three, blended.
        due("the one below", x.left(0), 3);
        due("apart", x.most(0) + x.most(9), 0);
        due("no such one", x.left(4), NONE);
        due("no such one", x.left(-1), NONE);
        promise = "39";
        due("HIDES", x.most(5), 2);
        // By late 0 the first is SHADED in 4, the third in 1, the fourth in 3; by late 1 the first only in the 3 that are blended on.
        due("SAVED", x.most(6), 1);
        x.set(2, 0);
        due("SAVED by late 0, too", x.most(6), 1);
        x.set(0, 2);
        due("CULLED ones are HIDDEN", x.most(5), 15);
        due("and save nothing", x.most(6), 0);
        due("rules are left alone", x.rule(7), 0);
    }

    private static void orders() {
        promise = "37";
        String far = full("flat", 9, 1, 8);
        String middle = full("flat", 6, 2, 8);
        String near = full("flat", 3, 3, 8);
        TileLights x = scene("size 2,2;tile 2;" + far + ";" + full("flat", 1, 2, 7) + ";" + near + ";" + middle);
        // Of 0, 2, 3 (far, near, middle): first order with the near one ahead is 2 0 3, number 2.
        due("the fewest", x.orders(0), 4);
        due("the first order", x.orders(1), 2);
        due("the most: far, middle, near", x.orders(2), 12);
        due("apart", x.most(0) + x.most(9), 0);
        due("what 3", x.orders(3), NONE);
        due("what -1", x.orders(-1), NONE);
        due("no SCENE", new TileLights().orders(0), NONE);
        x.set(0, 2);
        due("all CULLED", x.orders(0) + x.orders(1) + x.orders(2), 0);
        x = scene("size 2,2;tile 2;" + full("flat", 1, 2, 7));
        due("none OPAQUE", x.orders(0) + x.orders(1) + x.orders(2), 0);
        // The first four alone: the nearest, the fifth, is left out. 0 to 3 lie nearer and nearer.
        x = scene("size 1,1;tile 2;" + full("flat", 9, 1, 8) + ";" + full("flat", 8, 1, 8) + ";" + full("flat", 7, 1, 8) + ";" + full("flat", 6, 1, 8) + ";" + full("flat", 5, 1, 8));
        due("the fewest", x.orders(0), 1);
        due("3 ahead: behind the 18 orders of 0, 1, 2 ahead", x.orders(1), 18);
        due("the most", x.orders(2), 4);
        x.set(1, 1);
        due("test as now: 3 is nearer all the same", x.orders(1), 18);
        // One that lies beside all is one of the four.
        x = scene("size 1,1;tile 2;flat 99,99,1,99,120,1,120,99,1,1,8;" + near + ";" + far);
        due("the most", x.orders(2), 2);
        due("the fewest by the first order", x.orders(0) * 10 + x.orders(1), 10);
    }

    private static void shifts() {
        promise = "38";
        // A square's half from 5, 5: COVERS no CENTRE but by -1, -1 that of PIXEL 0, 0.
        TileLights x = scene("size 2,2;tile 2;flat 5,5,1,11,5,1,5,11,1,1,8");
        due("now", x.triangle(0, 9), 0);
        due("the most by 1", x.shifts(0, 1, 0), 1);
        due("the first shift", x.shifts(0, 1, 1), 0);
        due("as many as now", x.shifts(0, 1, 2), 8);
        // By 2 it COVERS 4, 4 if it goes left and up (four shifts), 12, 4 by 2 across and -1 down, 4, 12 the other way round.
        due("the most by 2", x.shifts(0, 2, 0), 1);
        due("the first shift by 2", x.shifts(0, 2, 1), 0);
        due("as many as now by 2", x.shifts(0, 2, 2), 19);
        due("apart", x.corner(0, 0, 0), 5);
        // At the bounds: a shift goes beyond them.
        x = scene("size 1,1;flat 160,160,1,159,160,1,160,159,1,1,8;" + full("flat", 1, 1, 8));
        due("beyond the bounds", x.shifts(0, 3, 2), 49);
        due("nothing at all", x.shifts(0, 3, 0) * 10 + x.shifts(0, 3, 1), 0);
        due("all the same", x.shifts(1, 3, 0) * 1000 + x.shifts(1, 3, 1) * 100 + x.shifts(1, 3, 2), 1049);
        due("n 0", x.shifts(0, 0, 0), NONE);
        due("n 4", x.shifts(0, 4, 0), NONE);
        due("no such what", x.shifts(0, 1, 3), NONE);
        due("no such what", x.shifts(0, 1, -1), NONE);
        due("no such one", x.shifts(2, 1, 0), NONE);
        due("no such one", x.shifts(-1, 1, 0), NONE);
        x.set(0, 2);
        due("CULLED", x.shifts(1, 1, 0) * 100 + x.shifts(1, 1, 2), 9);
        // Right of 5: with across -1 the SAMPLE at 4 lies on its left EDGE, which is HIGH.
        x = scene("size 1,1;flat 5,-64,1,99,-64,1,5,160,1,1,8");
        due("rows by down, then across", x.shifts(0, 1, 1), 0);
        x = scene("size 1,1;flat 4,-64,1,4,160,1,-99,-64,1,1,8");
        due("the first by which it is so", x.shifts(0, 1, 1), 2);
        due("as many as now", x.shifts(0, 1, 2), 6);
    }

    private static void most() {
        promise = "39";
        TileLights x = scene(FRAME + HALF + ";flat 17,17,1,30,17,1,17,30,1,77,8;flat 0,0,1,8,8,1,16,16,1,7,8");
        due("CULLED ones", x.most(7), 4);
        due("no BIN has any: the lowest", x.most(8), 0);
        x.draw(1);
        due("the TILE with most", x.most(8), 3);
        due("TRIANGLES in any BIN", x.most(9), 2);
        x.draw(0);
        x.draw(0);
        due("TRIANGLES in any BIN", x.most(9), 3);
        x.flush(3);
        due("of several the lowest", x.most(8), 0);
        due("none PENDING", x.most(4), 0);
        due("pairs", x.most(0), 1);
        due("by late: SKIPPED", x.most(1), 0);
        x.all();
        due("pairs", x.most(0), 7);
        due("FLUSHES", x.most(3), 4);
        due("TESTED: 1 in TILE 3, twice each; in TILE 0 the second is SKIPPED but for one PIXEL that is not covered", x.most(2), 1 + 4 + 2 + 2);
        due("SKIPPED in TILE 0", x.most(1), 1);
        due("no such what", x.most(10), HIDDEN);
        due("no such what", x.most(-1), HIDDEN);
        due("no such what", x.most(MIN), HIDDEN);
        due("no SCENE", new TileLights().most(8), HIDDEN);
    }

    private static void imageAndBack() {
        promise = "40";
        TileLights x = scene(FRAME + HALF);
        due("no SCENE", new TileLights().image(), NONE);
        x.draw(0);
        x.all();
        x.draw(0);
        due("image()", x.image(), 6);
        due("it is no ACT", x.count(5), 3);
        promise = "41";
        x.clear();
        x.set(1, 1);
        x.move(0, 1, -16, 0);
        due("back()", x.back(), 6);
        due("SAMPLES", x.pixel(0, 0), 200);
        due("BINS", x.triangle(0, 11), 4);
        due("CORNERS", x.triangle(0, 0), 1024);
        due("what it COVERS", x.triangle(0, 9), 6);
        due("SHADED", x.triangle(0, 10), 6);
        due("counts", x.most(3), 4);
        due("rules", x.rule(6), 0);
        due("the LOG", x.count(4), 3);
        due("no ACT can be UNDONE", x.count(5), 0);
        due("no ACT can be UNDONE", x.undo(), NONE);
        x.clear();
        due("once more", x.back(), 6);
        x.clear();
        due("instead of the one ahead", x.image(), 0);
        x.draw(0);
        x.all();
        due("back()", x.back(), 0);
        due("a FAULT leaves the IMAGE", tell(x, "tile 9", 0), NONE);
        due("back()", x.back(), 0);
        tell(x, FRAME + HALF, 0);
        due("another SCENE, though alike", x.back(), NONE);
        due("none", new TileLights().back(), NONE);
    }

    private static void count() {
        promise = "42";
        TileLights x = scene(FRAME + HALF + ";" + HALF);
        tell(x, "all", 1);
        feed(x, "abcde");
        x.all();
        x.all();
        x.undo();
        int[] want = {2, 1, 5, 4, 1, 1};
        for (int i = 0; i < 6; i++) due("count(" + i + ")", x.count(i), want[i]);
        due("count(6)", x.count(6), HIDDEN);
        due("count(-1)", x.count(-1), HIDDEN);
        due("count(MAX)", x.count(MAX), HIDDEN);
    }
}
