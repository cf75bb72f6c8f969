/** Paragraph 1 of the document, sentence by sentence: bounds of each number, how often a WORD may be there, what a FAULT is and where it begins. */
public final class TextBoundsTest {
    private static final int NONE = Bounds.NONE;
    private static final int HIDDEN = Bounds.HIDDEN;
    private static final String TRI = "flat 0,0,0,8,0,0,0,8,0,1,1";
    private static final String SHORT = "flat0,0,0,8,0,0,0,8,0,1,1";
    private static final String[] ONCE = {"size 8,8", "tile 4", "many 1", "back 0", "cull 0", "test 0", "late 1", "room 10"};
    private static final String[] PATTERNS = {"flat", "check", "rows", "deep"};
    // Each is out of every bound, but comes into some if it goes round in 32 or 64 bits.
    private static final String[] ROUND = {"4294967297", "4294967298", "-4294967295", "18446744073709551617", "18446744073709551618", "99999999999999999999999999"};

    public static void main(String[] args) {
        numbersOfScene();
        withoutClauses();
        inAnyOrder();
        onceAtMost();
        numbersOfTriangle();
        oneToTenTriangles();
        numbersOfSteps();
        oneToTwelveSteps();
        fourScripts();
        wordsAndNumbers();
        blanks();
        endsTooEarly();
        withoutTriangle();
        wordsThatAreNone();
        numbersOutOfBounds();
        minusWithoutDigit();
        oneNumberTooMany();
        anotherPart();
        theThirteenthStep();
        anyOtherByte();
        theFirstPart();
        notAFault();
        tape();
        Bounds.finish();
    }

    private static void says(String words) {
        Bounds.says(words);
    }

    private static void due(String call, long got, long want) {
        Bounds.due(call, got, want);
    }

    private static void fault(String text, int sort, int want) {
        Bounds.fault(text, sort, want);
    }

    // ---- a SCENE ----

    private static void numbersOfScene() {
        says("size (two: how WIDE, how HIGH in PIXELS, 1 .. 8 each)");
        number("size ", ",8;" + TRI, 1, 8, 0);
        number("size 8,", ";" + TRI, 1, 8, 1);
        number(TRI + ";size 1,", "", 1, 8, 1);
        says("tile (2 .. 4)");
        number("tile ", ";" + TRI, 2, 4, 2);
        says("back (0 .. 255)");
        number("back ", ";" + TRI, 0, 255, 4);
        says("cull (0 .. 2)");
        number("cull ", ";" + TRI, 0, 2, 5);
        says("test (0, 1)");
        number("test ", ";" + TRI, 0, 1, 6);
        says("late (0, 1)");
        number("late ", ";" + TRI, 0, 1, 7);
        says("room (1 .. 10)");
        number("room ", ";" + TRI, 1, 10, 8);
        says("many (SAMPLES of a PIXEL: 1, 2, 4)");
        for (int v = -1; v <= 9; v++) {
            boolean may = v == 1 || v == 2 || v == 4;
            fault("many " + v + ";" + TRI, 0, may ? NONE : 5);
            if (may) due("rule(3)", Bounds.scene("many " + v + ";" + TRI).rule(3), v);
        }
        for (String far : ROUND) fault("many " + far + ";" + TRI, 0, 5);
    }

    /** The last values within the bounds, the first beyond them, and those that come back if they go round. */
    private static void number(String ahead, String behind, int low, int high, int rule) {
        for (int v = low; v <= high; v++) {
            fault(ahead + v + behind, 0, NONE);
            due("rule(" + rule + ") of '" + ahead + v + behind + "'", Bounds.scene(ahead + v + behind).rule(rule), v);
        }
        fault(ahead + (low - 1) + behind, 0, ahead.length());
        fault(ahead + (high + 1) + behind, 0, ahead.length());
        fault(ahead + "-" + high + behind, 0, ahead.length());
        for (String far : ROUND) fault(ahead + far + behind, 0, ahead.length());
    }

    private static void withoutClauses() {
        says("8 and 8 without; tile 4; many 1; back 0; cull 0; test 0; late 1; room 10");
        int[] due = {8, 8, 4, 1, 0, 0, 0, 1, 10, 4};
        TileLights x = Bounds.scene("size 1,1;tile 2;many 4;back 7;cull 2;test 1;late 0;room 1;" + TRI);
        Bounds.tell(x, TRI, 0);
        for (int i = 0; i < due.length; i++) due("rule(" + i + ")", x.rule(i), due[i]);
        for (int i = 0; i < ONCE.length; i++) {
            StringBuilder text = new StringBuilder();
            String[] other = {"size 1,1", "tile 2", "many 4", "back 7", "cull 2", "test 1", "late 0", "room 1"};
            for (int j = 0; j < other.length; j++) if (j != i) text.append(other[j]).append(';');
            TileLights y = Bounds.scene(text + TRI);
            int rule = i == 0 ? 0 : i + 1;
            due("rule(" + rule + ") without its clause", y.rule(rule), due[rule]);
        }
    }

    private static void inAnyOrder() {
        says("CLAUSES with ; between, in any order");
        String[] clauses = {"size 3,2", "tile 3", "many 4", "back 9", "cull 2", "test 1", "late 0", "room 4", TRI};
        int[] due = {3, 2, 3, 4, 9, 2, 1, 0, 4, 1};
        for (int turn = 0; turn < clauses.length; turn++) {
            for (int way = -1; way <= 1; way += 2) {
                StringBuilder text = new StringBuilder();
                for (int i = 0; i < clauses.length; i++) {
                    text.append(i > 0 ? ";" : "").append(clauses[Math.floorMod(turn + way * i, clauses.length)]);
                }
                TileLights x = Bounds.scene(text.toString());
                for (int i = 0; i < due.length; i++) due("rule(" + i + ") of '" + text + "'", x.rule(i), due[i]);
            }
        }
        says("TRIANGLES are numbered as they are told");
        TileLights x = Bounds.scene("check 0,0,0,8,0,0,0,8,0,7,1;tile 2;flat 0,0,0,8,0,0,0,8,0,9,2;back 1;deep 0,0,0,8,0,0,0,8,0,8,3");
        due("patterns", x.triangle(0, 3) * 100 + x.triangle(1, 3) * 10 + x.triangle(2, 3), 103);
        due("colors", x.triangle(0, 2) * 100 + x.triangle(1, 2) * 10 + x.triangle(2, 2), 798);
    }

    private static void onceAtMost() {
        says("each of these once at most: a WORD that was there in a SCENE and may not be again");
        for (int i = 0; i < ONCE.length; i++) {
            String word = ONCE[i];
            fault(word + ";" + TRI, 0, NONE);
            fault(word + ";" + word + ";" + TRI, 0, word.length() + 1);
            fault(word + ";" + TRI + ";" + word, 0, word.length() + TRI.length() + 2);
            fault(TRI + "; " + word + " ; " + word, 0, TRI.length() + 2 + word.length() + 3);
            // The WORD itself can't be: its numbers are not looked at.
            fault(word + ";" + TRI + ";" + word.substring(0, 4), 0, word.length() + TRI.length() + 2);
            fault(word + ";" + TRI + ";" + word.substring(0, 4) + " 99", 0, word.length() + TRI.length() + 2);
        }
        fault(String.join(";", ONCE) + ";" + TRI, 0, NONE);
        says("what was there in a TEXT ahead may be in this one");
        TileLights x = Bounds.scene("tile 2;" + TRI);
        due("text(0)", Bounds.tell(x, "tile 3;" + TRI, 0), 1);
        due("rule(2)", x.rule(2), 3);
    }

    // ---- a TRIANGLE ----

    private static void numbersOfTriangle() {
        int[] low = {-99, -99, 0, -99, -99, 0, -99, -99, 0, 0, 1};
        int[] high = {160, 160, 999, 160, 160, 999, 160, 160, 999, 255, 8};
        String[] said = {"x (-99 .. 160)", "y (-99 .. 160)", "z (0 .. 999)"};
        for (int p = 0; p < PATTERNS.length; p++) {
            for (int i = 0; i < 11; i++) {
                says(i < 9 ? "of three CORNERS " + said[i % 3] : i == 9 ? "COLOR (0 .. 255)" : "ALPHA (1 .. 8)");
                StringBuilder ahead = new StringBuilder(PATTERNS[p]).append(' ');
                for (int j = 0; j < i; j++) ahead.append(low[j]).append(',');
                StringBuilder behind = new StringBuilder();
                for (int j = i + 1; j < 11; j++) behind.append(',').append(high[j]);
                for (int v : new int[] {low[i], low[i] + 1, high[i] - 1, high[i]}) {
                    String text = ahead.toString() + v + behind;
                    fault(text, 0, NONE);
                    TileLights x = Bounds.scene(text);
                    int got = i < 9 ? x.corner(0, i / 3, i % 3) : x.triangle(0, i == 9 ? 2 : 1);
                    due("number " + i + " of '" + text + "'", got, v);
                    due("PATTERN of '" + text + "'", x.triangle(0, 3), p);
                }
                fault(ahead.toString() + (low[i] - 1) + behind, 0, ahead.length());
                fault(ahead.toString() + (high[i] + 1) + behind, 0, ahead.length());
                for (String far : ROUND) fault(ahead + far + behind, 0, ahead.length());
            }
        }
        says("a TRIANGLE: eleven numbers");
        StringBuilder text = new StringBuilder("flat ");
        for (int i = 1; i <= 11; i++) {
            text.append(i > 1 ? "," : "").append("1");
            fault(text.toString(), 0, i < 11 ? text.length() : NONE);
            if (i < 11) fault(text + ";" + TRI, 0, text.length());
        }
        fault(text + ",1", 0, text.length());
    }

    private static void oneToTenTriangles() {
        says("a TRIANGLE (1 to 10 of these)");
        StringBuilder text = new StringBuilder();
        for (int n = 1; n <= 10; n++) {
            text.append(n > 1 ? ";" : "").append(PATTERNS[n % 4]).append(SHORT.substring(4));
            fault(text.toString(), 0, NONE);
            due("count(0)", Bounds.scene(text.toString()).count(0), n);
        }
        says("a WORD that is an eleventh TRIANGLE");
        for (String pattern : PATTERNS) {
            fault(text + ";" + pattern + SHORT.substring(4), 0, text.length() + 1);
            fault(text + "; " + pattern, 0, text.length() + 2);
            fault(text + ";" + pattern + " 999", 0, text.length() + 1);
        }
        fault(text + ";tile 2", 0, NONE);
        fault(text + ";tile 2;tile 2", 0, text.length() + 8);
        fault(text + ";x", 0, text.length() + 1);
    }

    // ---- a SCRIPT ----

    private static void numbersOfSteps() {
        says("draw (0 .. 9)");
        stepNumber("draw ", "", 0, 9, 1);
        says("flush (0 .. 15)");
        stepNumber("flush ", "", 0, 15, 1);
        says("cull (0 .. 2)");
        stepNumber("cull ", "", 0, 2, 1);
        says("test (0, 1)");
        stepNumber("test ", "", 0, 1, 1);
        says("late (0, 1)");
        stepNumber("late ", "", 0, 1, 1);
        says("room (1 .. 10)");
        stepNumber("room ", "", 1, 10, 1);
        says("move (four: 0 .. 9, 0 .. 2, -20 .. 20, -20 .. 20)");
        stepNumber("move ", ",0,0,0", 0, 9, 1);
        stepNumber("move 9,", ",0,0", 0, 2, 2);
        stepNumber("move 9,2,", ",0", -20, 20, 3);
        stepNumber("move 9,2,-20,", "", -20, 20, 4);
        stepNumber("all;move 0,0,20,", ";all", -20, 20, 4);
        says("all, clear (none both)");
        fault("all", 1, NONE);
        fault("clear", 1, NONE);
        fault("all 0", 1, 4);
        fault("clear 0", 1, 6);
        fault("all,0", 1, 3);
        fault("clear -", 1, 6);
    }

    private static void stepNumber(String ahead, String behind, int low, int high, int what) {
        int step = ahead.startsWith("all;") ? 1 : 0;
        for (int v = low; v <= high; v++) {
            fault(ahead + v + behind, 1, NONE);
            TileLights x = new TileLights();
            due("text(1)", Bounds.tell(x, ahead + v + behind, 1), 0);
            due("step of '" + ahead + v + behind + "'", x.step(0, step, what), v);
        }
        fault(ahead + (low - 1) + behind, 1, ahead.length());
        fault(ahead + (high + 1) + behind, 1, ahead.length());
        for (String far : ROUND) fault(ahead + far + behind, 1, ahead.length());
    }

    private static void oneToTwelveSteps() {
        says("STEPS with ; between, 1 to 12");
        fault("", 1, 0);
        StringBuilder text = new StringBuilder();
        for (int n = 1; n <= 12; n++) {
            text.append(n > 1 ? ";" : "").append("draw ").append(n % 10);
            fault(text.toString(), 1, NONE);
            TileLights x = new TileLights();
            Bounds.tell(x, text.toString(), 1);
            due("the last STEP", x.step(0, n - 1, 1), n % 10);
            due("no STEP behind it", x.step(0, n, 0), HIDDEN);
        }
        says("a WORD may be in a SCRIPT as often as STEPS are");
        fault("cull 1;cull 1;test 0;test 0;late 0;late 0;room 1;room 1;clear;clear;all;all", 1, NONE);
    }

    private static void fourScripts() {
        says("SCRIPTS (4 at most)");
        TileLights x = new TileLights();
        for (int i = 0; i < 4; i++) {
            due("count(1)", x.count(1), i);
            due("text(1)", Bounds.tell(x, "draw " + i + ";all", 1), i);
        }
        due("a fifth", Bounds.tell(x, "clear", 1), NONE);
        due("its TAPE stays", x.count(2), 5);
        due("it has no FAULT", x.fault(1), NONE);
        due("count(1)", x.count(1), 4);
        for (int i = 0; i < 4; i++) due("step(" + i + ", 0, 1)", x.step(i, 0, 1), i);
        due("no such SCRIPT", x.step(4, 0, 0), HIDDEN);
        due("a SCENE leaves SCRIPTS", Bounds.tell(x, TRI, 0) * 10 + x.count(1), 14);
        due("still no fifth", Bounds.tell(x, "clear", 1), NONE);
    }

    // ---- WORDS, numbers, blanks ----

    private static void wordsAndNumbers() {
        says("A WORD is letters (a to z), as many as stand one behind another");
        fault("tile2;" + TRI, 0, NONE);
        fault("tiletile 2;" + TRI, 0, 0);
        fault("til e 2;" + TRI, 0, 0);
        fault("draw9;flush15;move9,2,-20,-20", 1, NONE);
        fault("allclear", 1, 0);
        fault("all clear", 1, 4);
        says("a number is digits, as many as stand one behind another");
        fault("tile 22;" + TRI, 0, 5);
        fault("tile 2 2;" + TRI, 0, 7);
        fault("size 88;" + TRI, 0, 5);
        says("it goes by what it is worth: 007 is 7");
        due("007", Bounds.scene("back 007;" + TRI).rule(4), 7);
        due("000", Bounds.scene("back 000;" + TRI).rule(4), 0);
        due("-0", Bounds.scene("back -0;" + TRI).rule(4), 0);
        due("-00", Bounds.scene("back -00;" + TRI).rule(4), 0);
        due("00255", Bounds.scene("back 00255;" + TRI).rule(4), 255);
        fault("back 00256;" + TRI, 0, 5);
        fault("back -01;" + TRI, 0, 5);
        due("many 004", Bounds.scene("many 004;" + TRI).rule(3), 4);
        fault("many 003;" + TRI, 0, 5);
        due("-099", Bounds.scene("flat -099,0,0,8,0,0,0,8,0,1,1").corner(0, 0, 0), -99);
        fault("flat -0100,0,0,8,0,0,0,8,0,1,1", 0, 5);
        String zeros = "0".repeat(440);
        due("440 zeros and 7", Bounds.scene("back " + zeros + "7;" + SHORT).rule(4), 7);
        fault("back 1" + zeros + ";" + SHORT, 0, 5);
        fault("draw " + "0".repeat(474) + "9", 1, NONE);
        fault("draw 1" + "0".repeat(474), 1, 5);
        says("with a - right ahead of them or without");
        fault("move 0,0,-1,-1", 1, NONE);
        fault("move 0,0,- 1,-1", 1, 9);
        fault("move 0,0,+1,-1", 1, 9);
    }

    private static void blanks() {
        says("Blanks (32) may stand ahead of and behind all these, and ; and ,");
        String spaced = "  size  3 , 2  ;  flat  0 , 0 , 0 , 8 , 0 , 0 , 0 , -8 , 0 , 1 , 1  ";
        TileLights x = Bounds.scene(spaced);
        due("rules", x.rule(0) * 10 + x.rule(1), 32);
        due("y of the third CORNER", x.corner(0, 2, 1), -8);
        due("none at all", Bounds.scene("size3,2;" + SHORT).rule(0), 3);
        fault(spaced, 0, NONE);
        fault("  move  9 , 2 , -20 , 20  ;  all  ;  clear  ", 1, NONE);
        fault(" ".repeat(480 - SHORT.length()) + SHORT, 0, NONE);
        fault(SHORT + " ".repeat(480 - SHORT.length()), 0, NONE);
        fault(" ".repeat(477) + "all", 1, NONE);
        fault("all" + " ".repeat(477), 1, NONE);
        fault(" ".repeat(480), 0, 480);
        fault(" ".repeat(480), 1, 480);
        says("no blank stands inside of a WORD, of a number, between - and its digits");
        fault("t ile 2;" + TRI, 0, 0);
        fault("room 1 0;" + TRI, 0, 7);
        fault("flat - 9,0,0,8,0,0,0,8,0,1,1", 0, 5);
    }

    // ---- FAULTS ----

    private static void endsTooEarly() {
        says("FAULT: the length, if the TEXT ends too early");
        fault("", 0, 0);
        fault("size", 0, 4);
        fault("size ", 0, 5);
        fault("size 8", 0, 6);
        fault("size 8 ", 0, 7);
        fault("size 8,", 0, 7);
        fault("size 8, ", 0, 8);
        fault(TRI + ";", 0, TRI.length() + 1);
        fault(TRI + ";  ", 0, TRI.length() + 3);
        fault(TRI + ";tile", 0, TRI.length() + 5);
        fault(TRI.substring(0, TRI.length() - 1), 0, TRI.length() - 1);
        fault(TRI.substring(0, TRI.length() - 2), 0, TRI.length() - 2);
        fault("draw", 1, 4);
        fault("draw ", 1, 5);
        fault("move 1,2,3", 1, 10);
        fault("move 1,2,3,", 1, 11);
        fault("all;", 1, 4);
        fault("all; ", 1, 5);
        says("a TAPE that end() has cut ends there");
        TileLights x = Bounds.feed(new TileLights(), "draw 1;draw 2");
        x.end(11);
        due("fault(1)", x.fault(1), 11);
        x.end(7);
        due("fault(1)", x.fault(1), 7);
        x.end(6);
        due("fault(1)", x.fault(1), NONE);
        x.end(3);
        due("fault(1) of dra", x.fault(1), 0);
    }

    private static void withoutTriangle() {
        says("FAULT: the length, if the TEXT is a SCENE without a TRIANGLE");
        fault("tile 4", 0, 6);
        fault(" tile 4 ", 0, 8);
        fault(String.join(";", ONCE), 0, String.join(";", ONCE).length());
        fault("tile 4;many 3", 0, 12);
        fault("tile 4;tile 4", 0, 7);
    }

    private static void wordsThatAreNone() {
        says("FAULT: a WORD that is none of these");
        for (String word : new String[] {"a", "z", "siz", "sizes", "flats", "fla", "xflat", "flatx", "draw", "flush", "all", "clear", "move", "deepdeep", "tilea"}) {
            fault(word + " 4;" + TRI, 0, 0);
            fault(TRI + "; " + word, 0, TRI.length() + 2);
        }
        for (String word : new String[] {"a", "al", "alll", "size", "tile", "many", "back", "flat", "check", "rows", "deep", "clea", "clears", "drawdraw"}) {
            fault(word, 1, 0);
            fault("all; " + word + " 1", 1, 5);
        }
        fault("a".repeat(480), 0, 0);
        fault("all;" + "a".repeat(476), 1, 4);
        says("letters of a to z alone make a WORD");
        fault("FLAT 0,0,0,8,0,0,0,8,0,1,1", 0, 0);
        fault("Flat 0,0,0,8,0,0,0,8,0,1,1", 0, 0);
        fault("flaT 0,0,0,8,0,0,0,8,0,1,1", 0, 0);
        fault("all;aLL", 1, 4);
    }

    private static void numbersOutOfBounds() {
        says("FAULT: a number out of bounds (a 3 of many) begins where its - or its first digit is");
        fault("many   3;" + TRI, 0, 7);
        fault("many 0000003;" + TRI, 0, 5);
        fault("back  -1;" + TRI, 0, 6);
        fault("size 1 , 00009;" + TRI, 0, 9);
        fault("move 0,0,-21,0", 1, 9);
        fault("move 0,0,0, 21", 1, 12);
    }

    private static void minusWithoutDigit() {
        says("FAULT: a - without a digit right behind");
        fault("tile -", 0, 5);
        fault("tile - 2;" + TRI, 0, 5);
        fault("tile -;" + TRI, 0, 5);
        fault("tile -,2", 0, 5);
        fault("tile --2", 0, 5);
        fault("tile -a", 0, 5);
        fault("tile -" + (char) 200, 0, 5);
        fault("-", 0, 0);
        fault("-", 1, 0);
        fault("draw -", 1, 5);
        fault("draw 1-", 1, 6);
        fault("all -", 1, 4);
        fault("all;-", 1, 4);
        fault("-tile 2", 0, 0);
        fault("size 8,-", 0, 7);
    }

    private static void oneNumberTooMany() {
        says("FAULT: a , ahead of one number too many");
        for (String clause : ONCE) {
            fault(clause + ",1;" + TRI, 0, clause.length());
            fault(clause + " ,", 0, clause.length() + 1);
        }
        fault(TRI + ",1", 0, TRI.length());
        fault(TRI + " ,", 0, TRI.length() + 1);
        for (String step : new String[] {"draw 1", "flush 1", "all", "clear", "cull 1", "test 1", "late 1", "room 1", "move 1,1,1,1"}) {
            fault(step, 1, NONE);
            fault(step + ",1", 1, step.length());
            fault("all;" + step + " , 1", 1, step.length() + 5);
        }
    }

    private static void anotherPart() {
        says("FAULT: another part than a number where one must be");
        fault("tile;" + TRI, 0, 4);
        fault("tile ;" + TRI, 0, 5);
        fault("tile ,2;" + TRI, 0, 5);
        fault("tile tile 2;" + TRI, 0, 5);
        fault("size 8,;" + TRI, 0, 7);
        fault("size 8,,8;" + TRI, 0, 7);
        fault("size 8, flat", 0, 8);
        fault("draw all", 1, 5);
        fault("draw;", 1, 4);
        fault("move 1,,1", 1, 7);
        says("FAULT: another part than a , where one must be");
        fault("size 8;" + TRI, 0, 6);
        fault("size 8 8;" + TRI, 0, 7);
        fault("size 8 -8;" + TRI, 0, 7);
        fault("size 8 flat", 0, 7);
        fault("size 8flat", 0, 6);
        fault("move 1 1,1,1", 1, 7);
        fault("move 1;all", 1, 6);
        says("FAULT: another part than a WORD, or than a ; behind what is whole");
        fault("2", 0, 0);
        fault(" ;" + TRI, 0, 1);
        fault("," + TRI, 0, 0);
        fault("-5", 1, 0);
        fault(TRI + ";;" + TRI, 0, TRI.length() + 1);
        fault(TRI + ";5", 0, TRI.length() + 1);
        fault(TRI + ";,", 0, TRI.length() + 1);
        fault(TRI + " 5", 0, TRI.length() + 1);
        fault(TRI + " tile 2", 0, TRI.length() + 1);
        fault(TRI + "tile 2", 0, TRI.length());
        fault(TRI + "-1", 0, TRI.length());
        fault("all;;all", 1, 4);
        fault("all all", 1, 4);
        fault("draw 1 all", 1, 7);
        fault("draw 1all", 1, 6);
    }

    private static void theThirteenthStep() {
        says("FAULT: the ; ahead of a 13th STEP");
        String twelve = "all;all;all;all;all;all;all;all;all;all;all;all";
        fault(twelve, 1, NONE);
        fault(twelve + ";all", 1, 47);
        fault(twelve + "  ;  all", 1, 49);
        fault(twelve + ";draw 99", 1, 47);
        fault(twelve + ";x", 1, 47);
        fault(twelve + ";", 1, 47);
        fault(twelve + " all", 1, 48);
        fault(twelve + ",", 1, 47);
        fault(twelve + "   ", 1, NONE);
        fault(twelve.substring(4) + ";", 1, 44);
    }

    private static void anyOtherByte() {
        says("FAULT: any other byte");
        for (int b = 1; b <= 255; b++) {
            char sign = (char) b;
            boolean known = b >= 'a' && b <= 'z' || b >= '0' && b <= '9' || b == ' ' || b == '-' || b == ';' || b == ',';
            if (known) continue;
            fault(sign + TRI, 0, 0);
            fault("tile" + sign + "2;" + TRI, 0, 4);
            fault("tile 2" + sign + ";" + TRI, 0, 6);
            fault("size 2" + sign + "2;" + TRI, 0, 6);
            fault(TRI + sign, 0, TRI.length());
            fault(TRI + ";" + sign, 0, TRI.length() + 1);
            fault("all" + sign, 1, 3);
            fault("all;" + sign + "all", 1, 4);
            fault("draw 1" + sign, 1, 6);
            fault("draw " + sign + "1", 1, 5);
        }
    }

    private static void theFirstPart() {
        says("FAULT: where the first part begins that can't be");
        fault("tile 9;back 999;x", 0, 5);
        fault("tile 2;back 999;x", 0, 12);
        fault("tile 2;back 99;x", 0, 15);
        fault("tile 2;tile 9", 0, 7);
        fault("size 9,9", 0, 5);
        fault("size 8,9,9", 0, 7);
        fault("draw 10;flush 16", 1, 5);
        fault("draw 9;flush 16;x", 1, 13);
        says("fault tells of the TAPE as it is now, as often as it is asked");
        TileLights x = Bounds.feed(new TileLights(), "all;tile 2");
        for (int i = 0; i < 3; i++) {
            due("fault(0)", x.fault(0), 0);
            due("fault(1)", x.fault(1), 4);
        }
        says("-2: no such sort");
        for (int sort : new int[] {-2, -1, 2, 3, Bounds.MIN, Bounds.MAX}) due("fault(" + sort + ")", x.fault(sort), -2);
        due("of an empty TAPE, too", new TileLights().fault(2), -2);
    }

    private static void notAFault() {
        says("What a STEP tells that can't be is no FAULT");
        fault("draw 9;flush 15;move 9,2,0,0;cull 0;late 1", 1, NONE);
        TileLights x = new TileLights();
        due("without a SCENE", Bounds.tell(x, "draw 9;flush 15", 1), 0);
        Bounds.tell(x, TRI, 0);
        due("with one", Bounds.tell(x, "draw 9;flush 15", 1), 1);
        due("it can't be", x.run(1, 0), 0);
        says("a TRIANGLE that is CULLED or lies beside all is no FAULT");
        fault("flat 0,0,0,0,0,0,0,0,0,0,1", 0, NONE);
        fault("flat 160,160,0,159,160,0,160,159,0,0,1", 0, NONE);
    }

    // ---- the TAPE ----

    private static void tape() {
        says("bytes of 0 are left out; of each number the highest first");
        TileLights x = new TileLights();
        due("zeros", x.feed(0, 0, 0, 0, 0), 0);
        due("all", x.feed(0x00000061, 0x6c000000, 0, 0x006c0000, 0), 3);
        due("it is all", x.fault(1), NONE);
        due("ten", x.feed(0x3b616c6c, 0x3b616c6c, 0x00003b61, 0x6c006c00, 0), 15);
        due("it is all four times", x.fault(1), NONE);
        due("text(1)", x.text(1), 0);
        due("four STEPS", x.step(0, 3, 0), 2);
        due("no fifth", x.step(0, 4, 0), HIDDEN);
        says("NONE: more than 480");
        for (int held = 460; held <= 480; held++) {
            for (int more = 0; more <= 20; more++) {
                TileLights y = Bounds.feed(new TileLights(), "x".repeat(held));
                int[] v = new int[5];
                for (int i = 0; i < more; i++) v[i % 5] = v[i % 5] << 8 | 0x79;
                boolean fits = held + more <= 480;
                due("feed of " + more + " to " + held, y.feed(v[0], v[1], v[2], v[3], v[4]), fits ? held + more : NONE);
                due("count(2)", y.count(2), fits ? held + more : held);
            }
        }
        says("each byte but 0 counts, whatever it is and wherever it stands");
        for (int place = 0; place < 20; place++) {
            for (int b : new int[] {1, 2, 127, 128, 255}) {
                int[] v = new int[5];
                v[place / 4] = b << (24 - place % 4 * 8);
                TileLights y = Bounds.feed(new TileLights(), "x".repeat(479));
                due("feed of byte " + b + " at " + place, y.feed(v[0], v[1], v[2], v[3], v[4]), 480);
                due("once more", y.feed(v[0], v[1], v[2], v[3], v[4]), NONE);
                due("in an empty TAPE", new TileLights().feed(v[0], v[1], v[2], v[3], v[4]), 1);
            }
        }
        says("The TAPE has its first n bytes alone. False: n");
        x = Bounds.feed(new TileLights(), "all;all;x");
        int[] bad = {-1, 10, 480, Bounds.MIN, Bounds.MAX};
        for (int n : bad) Bounds.due("end(" + n + ")", x.end(n), false);
        due("as it was", x.count(2) * 10 + x.fault(1), 98);
        Bounds.due("end(9), as many as there are", x.end(9), true);
        due("as it was", x.fault(1), 8);
        Bounds.due("end(7)", x.end(7), true);
        due("the first seven", x.fault(1), NONE);
        Bounds.due("end(8)", x.end(8), false);
        Bounds.due("end(0)", x.end(0), true);
        Bounds.due("end(0) of none", x.end(0), true);
        Bounds.due("end(1) of none", x.end(1), false);
        due("behind the end bytes come to the end", Bounds.feed(x, "clear").count(2), 5);
        full();
    }

    private static void full() {
        says("end and feed on a full TAPE");
        TileLights x = Bounds.feed(new TileLights(), " ".repeat(477) + "all");
        due("count(2)", x.count(2), 480);
        due("one byte more", x.feed(0, 0, 0, 0, 0x78), NONE);
        due("no byte more", x.feed(0, 0, 0, 0, 0), 480);
        due("fault(1)", x.fault(1), NONE);
        Bounds.due("end(481)", x.end(481), false);
        Bounds.due("end(480)", x.end(480), true);
        Bounds.due("end(479)", x.end(479), true);
        due("al", x.fault(1), 477);
        due("and its l again", x.feed(0, 0x6c, 0, 0, 0), 480);
        due("text(1)", x.text(1), 0);
        due("empty then", x.count(2), 0);
    }
}
