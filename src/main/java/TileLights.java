import java.util.Arrays;
import java.util.NoSuchElementException;

/** Triangles drawn by tiles. The words in capitals are the terms of the document. */
public final class TileLights {
    public static final int NONE = -1;
    public static final int HIDDEN = -1000000000;

    private static final int SIDE = 8;
    private static final int PIXELS = 64;
    // A PIXEL has four places for SAMPLES, used or not: so a place never depends on the SCENE.
    private static final int PLACES = 4;
    private static final int SAMPLES = 256;
    private static final int TILES = 16;
    private static final int TRIANGLES = 10;
    private static final int BIN_LIMIT = 10;
    private static final int EMPTY_DEPTH = 1000;
    private static final int OPAQUE = 8;
    private static final int TAPE_LIMIT = 480;
    private static final int LOW_POINT = -99;
    private static final int HIGH_POINT = 160;
    private static final int SCRIPTS = 4;
    private static final int STEPS = 12;
    private static final int STEP_SIZE = 5;
    private static final int UNDO_LIMIT = 40;
    private static final int LOG_LIMIT = 60;
    private static final int YEARS_LIMIT = 40;
    private static final int MOVE_LIMIT = 20;
    private static final int SHIFT_LIMIT = 3;
    private static final int ORDERED = 4;

    private static final int DRAW = 0;
    private static final int FLUSH = 1;
    private static final int ALL = 2;
    private static final int CLEAR = 3;
    private static final int RULE = 4;
    private static final int MOVE = 8;
    private static final int NO_ACT = 9;
    private static final int RULE_SORT = 4;
    private static final int MOVE_SORT = 5;

    private static final int CULL = 0;
    private static final int TEST = 1;
    private static final int LATE = 2;
    private static final int ROOM = 3;
    private static final int RULES = 4;

    private static final int NO_SUCH = 0;
    private static final int OUT_OF_BOUNDS = 1;
    private static final int NOTHING_TO_DO = 2;
    private static final int IN_A_BIN = 3;
    private static final int STATUSES = 4;

    private final Tape tape;
    private final Reader reader;
    private final Scene draft;
    private final Scene scene;
    private final Grid grid;
    private final Works works;
    private final Studies studies;
    private final Frame live;
    private final Frame kept;
    private final History history;
    private final Script[] scripts;
    private final int[] statuses;
    private final int[] chosen;
    private int scriptsHeld;
    private boolean imaged;
    private long chance;

    public TileLights() {
        tape = new Tape();
        reader = new Reader(tape);
        draft = new Scene();
        scene = new Scene();
        grid = new Grid();
        works = new Works(scene, grid);
        studies = new Studies(scene, grid, works);
        live = new Frame();
        kept = new Frame();
        history = new History();
        // One more than can be held: the first free one is where a TEXT is read to.
        scripts = new Script[SCRIPTS + 1];
        for (int i = 0; i < scripts.length; i++) {
            scripts[i] = new Script();
        }
        statuses = new int[STATUSES];
        chosen = new int[STEP_SIZE];
        scriptsHeld = 0;
        imaged = false;
        chance = 0L;
    }

    // ---- the TAPE and what is read from it ----

    public int feed(int a, int b, int c, int d, int e) {
        int more = Tape.bytesIn(a) + Tape.bytesIn(b) + Tape.bytesIn(c) + Tape.bytesIn(d) + Tape.bytesIn(e);
        if (tape.length + more > TAPE_LIMIT) {
            return NONE;
        }
        tape.append(a);
        tape.append(b);
        tape.append(c);
        tape.append(d);
        tape.append(e);
        return tape.length;
    }

    public boolean end(int n) {
        if (n < 0 || n > tape.length) {
            return false;
        }
        tape.length = n;
        return true;
    }

    public int fault(int sort) {
        if (sort == 0) {
            return reader.readScene(draft);
        }
        if (sort == 1) {
            return reader.readScript(scripts[scriptsHeld]);
        }
        return -2;
    }

    public int text(int sort) {
        if (sort == 0 && reader.readScene(draft) == NONE) {
            tape.length = 0;
            begin();
            return scene.triangles;
        }
        if (sort == 1 && scriptsHeld < SCRIPTS && reader.readScript(scripts[scriptsHeld]) == NONE) {
            tape.length = 0;
            scriptsHeld++;
            return scriptsHeld - 1;
        }
        return NONE;
    }

    private void begin() {
        scene.copyFrom(draft);
        grid.layOut(scene);
        live.beginWith(scene);
        works.forgetShapes();
        works.fit(live);
        history.forget();
        imaged = false;
    }

    // ---- what is told of the SCENE as it is now ----

    private boolean hasScene() {
        return scene.triangles > 0;
    }

    public int rule(int what) {
        if (!hasScene()) {
            return NONE;
        }
        switch (what) {
            case 0: return scene.wide;
            case 1: return scene.high;
            case 2: return scene.tile;
            case 3: return scene.many;
            case 4: return scene.back;
            case 5: return live.rules[CULL];
            case 6: return live.rules[TEST];
            case 7: return live.rules[LATE];
            case 8: return live.rules[ROOM];
            case 9: return grid.tiles;
            default: return NONE;
        }
    }

    public int triangle(int triangle, int what) throws NoSuchElementException {
        if (!scene.has(triangle) || what < 0 || what > 11) {
            throw new NoSuchElementException();
        }
        Shape shape = works.shapes[triangle];
        switch (what) {
            case 0: return shape.area;
            case 1: return scene.alpha[triangle];
            case 2: return scene.color[triangle];
            case 3: return scene.pattern[triangle];
            case 4: return works.isCulled(live, triangle) ? 1 : 0;
            case 5: return shape.leastZ;
            case 6: return shape.greatestZ;
            case 7: return works.touchedBy(live, triangle);
            case 8: return works.touchedInVain(live, triangle);
            case 9: return works.coveredBy(live, triangle);
            case 10: return Long.bitCount(live.shaded[triangle]);
            default: return works.timesInBins(live, triangle);
        }
    }

    public int corner(int triangle, int corner, int what) {
        if (!scene.has(triangle) || corner < 0 || corner > 2 || what < 0 || what > 2) {
            return HIDDEN;
        }
        if (what == 2) {
            return scene.z[triangle * 3 + corner];
        }
        return live.corners[triangle * 6 + corner * 2 + what];
    }

    public int edge(int triangle, int edge, int x, int y) {
        if (!scene.has(triangle) || edge < 0 || edge > 2 || !isPoint(x) || !isPoint(y)) {
            return HIDDEN;
        }
        return works.shapes[triangle].sumAt(edge, x, y);
    }

    private static boolean isPoint(int v) {
        return v >= LOW_POINT && v <= HIGH_POINT;
    }

    public int mask(int triangle, int x, int y) {
        if (!scene.has(triangle) || !grid.hasPixel(x, y)) {
            return NONE;
        }
        int bits = 0;
        for (int k = 0; k < grid.many; k++) {
            if (works.depthIn(live, triangle, Grid.placeOf(x, y) + k) >= 0) {
                bits |= 1 << k;
            }
        }
        return bits;
    }

    public int depth(int triangle, int x, int y, int sample) {
        if (!scene.has(triangle) || !grid.hasSample(x, y, sample)) {
            return NONE;
        }
        return works.depthIn(live, triangle, Grid.placeOf(x, y) + sample);
    }

    public int shade(int triangle, int x, int y) {
        if (!scene.has(triangle) || !grid.hasPixel(x, y) || works.shapes[triangle].area == 0) {
            return NONE;
        }
        return works.shapes[triangle].shades[y * SIDE + x];
    }

    public int sample(int x, int y, int sample, int what) {
        if (!grid.hasSample(x, y, sample)) {
            return HIDDEN;
        }
        int place = Grid.placeOf(x, y) + sample;
        switch (what) {
            case 0: return live.depth[place];
            case 1: return live.color[place];
            case 2: return live.pending[place];
            default: return HIDDEN;
        }
    }

    public int pixel(int x, int y) {
        return grid.hasPixel(x, y) ? grid.resolved(live, y * SIDE + x) : NONE;
    }

    public int tile(int tile, int what) {
        if (!grid.hasTile(tile)) {
            return NONE;
        }
        switch (what) {
            case 0: return live.binned[tile];
            case 1: return grid.farOf(live, tile);
            case 2: return grid.nearOf(live, tile);
            case 3: return grid.pendingIn(live, tile);
            case 4: return grid.pixelsOf(tile);
            default: return NONE;
        }
    }

    public int bin(int tile, int i) {
        if (!grid.hasTile(tile) || i < 0 || i >= live.binned[tile]) {
            return NONE;
        }
        return live.bins[tile * BIN_LIMIT + i];
    }

    public long shaded(int triangle) {
        return scene.has(triangle) ? live.shaded[triangle] : 0L;
    }

    // ---- ACTS ----

    public int draw(int triangle) {
        return act(DRAW, triangle, 0, 0, 0, NONE);
    }

    public int flush(int tile) {
        return act(FLUSH, tile, 0, 0, 0, NONE);
    }

    public int all() {
        return act(ALL, 0, 0, 0, 0, NONE);
    }

    public int clear() {
        return act(CLEAR, 0, 0, 0, 0, NONE);
    }

    public int set(int what, int v) {
        int kind = what >= 0 && what < RULES ? RULE + what : NO_ACT;
        return act(kind, v, 0, 0, 0, NONE);
    }

    public int move(int triangle, int corner, int across, int down) {
        return act(MOVE, triangle, corner, across, down, HIDDEN);
    }

    private int act(int kind, int a, int b, int c, int d, int refused) {
        int why = works.refusal(live, kind, a, b, c, d);
        if (why >= 0 && why < STATUSES) {
            statuses[why]++;
            return refused;
        }
        history.keep(live);
        int answer = works.carryOut(live, kind, a, b, c, d);
        live.note(sortOf(kind), numberOf(kind, a));
        return answer;
    }

    private static int sortOf(int kind) {
        return kind < RULE ? kind : kind == MOVE ? MOVE_SORT : RULE_SORT;
    }

    private static int numberOf(int kind, int a) {
        if (kind == ALL || kind == CLEAR) {
            return 0;
        }
        return sortOf(kind) == RULE_SORT ? kind - RULE : a;
    }

    public int years(int n, long seed) {
        if (!hasScene() || n < 1 || n > YEARS_LIMIT) {
            return NONE;
        }
        chance = seed;
        for (int i = 0; i < n; i++) {
            chooseAct();
            // What can't be is left without a STATUS, so it is asked ahead of the ACT.
            if (works.refusal(live, chosen[0], chosen[1], chosen[2], chosen[3], chosen[4]) == NONE) {
                act(chosen[0], chosen[1], chosen[2], chosen[3], chosen[4], NONE);
            }
        }
        return live.pairs();
    }

    private void chooseAct() {
        int sort = chanceOf(8);
        if (sort <= 4) {
            chosen[0] = DRAW;
            chosen[1] = chanceOf(scene.triangles);
        } else if (sort == 5) {
            chosen[0] = FLUSH;
            chosen[1] = chanceOf(grid.tiles);
        } else if (sort == 6) {
            chosen[0] = RULE + LATE;
            chosen[1] = 1 - live.rules[LATE];
        } else {
            chosen[0] = MOVE;
            chosen[1] = chanceOf(scene.triangles);
            chosen[2] = chanceOf(3);
            chosen[3] = chanceOf(9) - 4;
            chosen[4] = chanceOf(9) - 4;
        }
    }

    private int chanceOf(int j) {
        chance = chance * 6364136223846793005L + 1442695040888963407L;
        return j > 0 ? (int) ((chance >>> 33) % j) : 0;
    }

    public int status(int what) {
        return what >= 0 && what < STATUSES ? statuses[what] : NONE;
    }

    public int undo() {
        if (history.held == 0) {
            return NONE;
        }
        history.restore(live);
        works.fit(live);
        return history.held;
    }

    public int log(int i, int what) {
        if (i < 0 || i >= live.logLength() || what < 0 || what > 2) {
            return NONE;
        }
        return live.noted(i, what);
    }

    // ---- SCRIPTS ----

    private boolean hasScript(int script) {
        return script >= 0 && script < scriptsHeld;
    }

    public int step(int script, int i, int what) {
        if (!hasScript(script) || i < 0 || i >= scripts[script].length) {
            return HIDDEN;
        }
        int kind = scripts[script].kindOf(i);
        if (what < 0 || what > Reader.numbersOfStep(kind)) {
            return HIDDEN;
        }
        return scripts[script].steps[i * STEP_SIZE + what];
    }

    public int run(int script, int what) {
        if (!hasScene() || !hasScript(script) || what < 0 || what > 1) {
            return HIDDEN;
        }
        int done = studies.runOf(live, scripts[script]);
        works.fit(live);
        if (what == 1) {
            return studies.apart.pairs();
        }
        return done == scripts[script].length ? NONE : done;
    }

    public int perform(int script) {
        if (!hasScene() || !hasScript(script)) {
            return NONE;
        }
        Script told = scripts[script];
        int done = 0;
        while (done < told.length) {
            int kind = told.kindOf(done);
            int a = told.number(done, 1);
            int b = told.number(done, 2);
            int c = told.number(done, 3);
            int d = told.number(done, 4);
            if (works.refusal(live, kind, a, b, c, d) != NONE) {
                break;
            }
            act(kind, a, b, c, d, NONE);
            done++;
        }
        return done;
    }

    // ---- what is asked apart, from as it is now ----

    public int layer(int x, int y, int sample, int i) {
        if (!grid.hasSample(x, y, sample)) {
            return NONE;
        }
        int place = Grid.placeOf(x, y) + sample;
        for (int t = 0; t < scene.triangles; t++) {
            if (works.depthIn(live, t, place) >= 0 && works.rankOf(live, t, place) == i) {
                return t;
            }
        }
        return NONE;
    }

    public int shown(int x, int y) {
        if (!grid.hasPixel(x, y)) {
            return NONE;
        }
        studies.flushApart(live);
        return grid.resolved(studies.apart, y * SIDE + x);
    }

    public int whole(int x, int y) {
        if (!grid.hasPixel(x, y)) {
            return NONE;
        }
        studies.drawWhole(live, live.rules[LATE], NONE);
        return grid.resolved(studies.apart, y * SIDE + x);
    }

    public int shared(int one, int other, int what) {
        if (!scene.has(one) || !scene.has(other) || what < 0 || what > 1) {
            return NONE;
        }
        return studies.sharedBy(live, one, other, 2 - what);
    }

    public int border(int one, int other, int what) {
        if (!scene.has(one) || !scene.has(other) || what < 0 || what > 2) {
            return NONE;
        }
        return studies.onBorder(live, one, other, what);
    }

    public int left(int triangle) {
        return scene.has(triangle) ? studies.leftOf(live, triangle) : NONE;
    }

    public int orders(int what) {
        if (!hasScene() || what < 0 || what > 2) {
            return NONE;
        }
        studies.tryOrders(live);
        return studies.found[what];
    }

    public int shifts(int triangle, int n, int what) {
        if (!scene.has(triangle) || n < 1 || n > SHIFT_LIMIT || what < 0 || what > 2) {
            return NONE;
        }
        studies.tryShifts(live, triangle, n);
        return studies.found[what];
    }

    public int most(int what) {
        if (!hasScene()) {
            return HIDDEN;
        }
        switch (what) {
            case 0: return live.pairs();
            case 1: return live.skipped;
            case 2: return live.tested;
            case 3: return live.flushes;
            case 4: return works.pendingInAll(live);
            case 5: return studies.hidesOf(live);
            case 6: return studies.savedOf(live);
            case 7: return works.culledOnes(live);
            case 8: return works.fullestTile(live);
            case 9: return works.binnedOnes(live);
            default: return HIDDEN;
        }
    }

    public int image() {
        if (!hasScene()) {
            return NONE;
        }
        kept.copyFrom(live);
        imaged = true;
        return live.pairs();
    }

    public int back() {
        if (!imaged) {
            return NONE;
        }
        live.copyFrom(kept);
        works.fit(live);
        history.forget();
        return live.pairs();
    }

    public int count(int what) {
        switch (what) {
            case 0: return scene.triangles;
            case 1: return scriptsHeld;
            case 2: return tape.length;
            case 3: return grid.tiles;
            case 4: return live.logLength();
            case 5: return history.held;
            default: return HIDDEN;
        }
    }

    /** The bytes that were fed. */
    private static final class Tape {
        final char[] signs;
        int length;

        Tape() {
            signs = new char[TAPE_LIMIT];
            length = 0;
        }

        static int bytesIn(int number) {
            int bytes = 0;
            for (int shift = 24; shift >= 0; shift -= 8) {
                if (((number >>> shift) & 255) != 0) {
                    bytes++;
                }
            }
            return bytes;
        }

        void append(int number) {
            for (int shift = 24; shift >= 0; shift -= 8) {
                int sign = (number >>> shift) & 255;
                if (sign != 0 && length < TAPE_LIMIT) {
                    signs[length] = (char) sign;
                    length++;
                }
            }
        }
    }

    /** Reads the TAPE as a SCENE or a SCRIPT, and tells the FAULT. */
    private static final class Reader {
        private static final String SCENE_WORDS = "size tile many back cull test late room flat check rows deep ";
        private static final int MANY_WORD = 2;
        private static final int FIRST_PATTERN = 8;
        // For each WORD how many numbers it has, and which pair of bounds is the first of them.
        private static final int[] SCENE_NUMBERS = {2, 1, 1, 1, 1, 1, 1, 1, 11, 11, 11, 11};
        private static final int[] SCENE_FIRST = {0, 2, 3, 4, 5, 6, 7, 8, 9, 9, 9, 9};
        private static final int[] SCENE_BOUNDS = {
            1, 8, 1, 8, 2, 4, 1, 4, 0, 255, 0, 2, 0, 1, 0, 1, 1, 10,
            -99, 160, -99, 160, 0, 999, -99, 160, -99, 160, 0, 999, -99, 160, -99, 160, 0, 999, 0, 255, 1, 8};
        private static final String STEP_WORDS = "draw flush all clear cull test late room move ";
        private static final int[] STEP_NUMBERS = {1, 1, 0, 0, 1, 1, 1, 1, 4};
        private static final int[] STEP_FIRST = {0, 1, 2, 2, 2, 3, 4, 5, 6};
        private static final int[] STEP_BOUNDS = {
            0, 9, 0, 15, 0, 2, 0, 1, 0, 1, 1, 10, 0, 9, 0, 2, -20, 20, -20, 20};
        private static final int NUMBERS_LIMIT = 11;
        // Far above every bound: digits behind it can't bring a number back into bounds.
        private static final int WORTH_LIMIT = 100000;

        private final Tape tape;
        private final int[] numbers;
        private int at;
        private int part;

        Reader(Tape read) {
            tape = read;
            numbers = new int[NUMBERS_LIMIT];
            at = 0;
            part = 0;
        }

        static int numbersOfStep(int kind) {
            return kind >= 0 && kind < STEP_NUMBERS.length ? STEP_NUMBERS[kind] : 0;
        }

        int readScene(Scene draft) {
            draft.reset();
            at = 0;
            int said = 0;
            for (int clauses = 0; clauses <= TAPE_LIMIT; clauses++) {
                int word = readWord(SCENE_WORDS);
                if (word < 0 || word >= SCENE_NUMBERS.length || mayNotBeAgain(draft, word, said)) {
                    return part;
                }
                said |= 1 << word;
                if (!readNumbers(SCENE_BOUNDS, SCENE_FIRST[word], SCENE_NUMBERS[word])) {
                    return part;
                }
                if (word == MANY_WORD && numbers[0] == 3) {
                    return part;
                }
                draft.take(word, word - FIRST_PATTERN, numbers);
                if (isAtEnd()) {
                    return draft.triangles == 0 ? tape.length : NONE;
                }
                if (!readSign(';')) {
                    return part;
                }
            }
            return part;
        }

        private static boolean mayNotBeAgain(Scene draft, int word, int said) {
            if (word >= FIRST_PATTERN) {
                return draft.triangles >= TRIANGLES;
            }
            return ((said >> word) & 1) != 0;
        }

        int readScript(Script draft) {
            draft.length = 0;
            at = 0;
            for (int i = 0; i < STEPS; i++) {
                int word = readWord(STEP_WORDS);
                if (word < 0 || word >= STEP_NUMBERS.length) {
                    return part;
                }
                if (!readNumbers(STEP_BOUNDS, STEP_FIRST[word], STEP_NUMBERS[word])) {
                    return part;
                }
                draft.take(word, numbers, STEP_NUMBERS[word]);
                if (isAtEnd()) {
                    return NONE;
                }
                if (!readSign(';')) {
                    return part;
                }
            }
            // The ; that was read last is ahead of one STEP too many.
            return part;
        }

        private void skipBlanks() {
            while (at < tape.length && tape.signs[at] == ' ') {
                at++;
            }
            part = at;
        }

        private boolean isAtEnd() {
            skipBlanks();
            return at >= tape.length;
        }

        private boolean readSign(char sign) {
            skipBlanks();
            if (at >= tape.length || tape.signs[at] != sign) {
                return false;
            }
            at++;
            return true;
        }

        private int readWord(String words) {
            skipBlanks();
            while (at < tape.length && tape.signs[at] >= 'a' && tape.signs[at] <= 'z') {
                at++;
            }
            int word = 0;
            int from = 0;
            for (int i = 0; i < words.length(); i++) {
                if (words.charAt(i) == ' ') {
                    if (isWord(words, from, i)) {
                        return word;
                    }
                    word++;
                    from = i + 1;
                }
            }
            return NONE;
        }

        private boolean isWord(String words, int from, int to) {
            if (to - from != at - part) {
                return false;
            }
            for (int i = from; i < to; i++) {
                if (words.charAt(i) != tape.signs[part + i - from]) {
                    return false;
                }
            }
            return true;
        }

        private boolean readNumbers(int[] bounds, int first, int many) {
            for (int i = 0; i < many && i < NUMBERS_LIMIT; i++) {
                if (i > 0 && !readSign(',')) {
                    return false;
                }
                int pair = (first + i) * 2;
                if (pair + 1 >= bounds.length || !readNumber(i, bounds[pair], bounds[pair + 1])) {
                    return false;
                }
            }
            return true;
        }

        private boolean readNumber(int i, int low, int high) {
            skipBlanks();
            boolean below = at < tape.length && tape.signs[at] == '-';
            if (below) {
                at++;
            }
            int digits = at;
            int worth = 0;
            while (at < tape.length && tape.signs[at] >= '0' && tape.signs[at] <= '9') {
                worth = Math.min(worth * 10 + (tape.signs[at] - '0'), WORTH_LIMIT);
                at++;
            }
            numbers[i] = below ? -worth : worth;
            return at > digits && numbers[i] >= low && numbers[i] <= high;
        }
    }

    /** What the TEXT of a SCENE tells; no TRIANGLE in it means that there is no SCENE. */
    private static final class Scene {
        int wide;
        int high;
        int tile;
        int many;
        int back;
        int triangles;
        final int[] rules;
        final int[] pattern;
        final int[] color;
        final int[] alpha;
        final int[] z;
        final int[] corners;

        Scene() {
            rules = new int[RULES];
            pattern = new int[TRIANGLES];
            color = new int[TRIANGLES];
            alpha = new int[TRIANGLES];
            z = new int[TRIANGLES * 3];
            corners = new int[TRIANGLES * 6];
            reset();
        }

        void reset() {
            wide = SIDE;
            high = SIDE;
            tile = 4;
            many = 1;
            back = 0;
            triangles = 0;
            rules[CULL] = 0;
            rules[TEST] = 0;
            rules[LATE] = 1;
            rules[ROOM] = BIN_LIMIT;
        }

        boolean has(int triangle) {
            return triangle >= 0 && triangle < triangles;
        }

        void take(int word, int itsPattern, int[] numbers) {
            switch (word) {
                case 0:
                    wide = numbers[0];
                    high = numbers[1];
                    break;
                case 1: tile = numbers[0]; break;
                case 2: many = numbers[0]; break;
                case 3: back = numbers[0]; break;
                case 4: rules[CULL] = numbers[0]; break;
                case 5: rules[TEST] = numbers[0]; break;
                case 6: rules[LATE] = numbers[0]; break;
                case 7: rules[ROOM] = numbers[0]; break;
                default: takeTriangle(itsPattern, numbers); break;
            }
        }

        private void takeTriangle(int itsPattern, int[] numbers) {
            if (triangles >= TRIANGLES) {
                return;
            }
            for (int i = 0; i < 3; i++) {
                corners[triangles * 6 + i * 2] = numbers[i * 3];
                corners[triangles * 6 + i * 2 + 1] = numbers[i * 3 + 1];
                z[triangles * 3 + i] = numbers[i * 3 + 2];
            }
            pattern[triangles] = itsPattern;
            color[triangles] = numbers[9];
            alpha[triangles] = numbers[10];
            triangles++;
        }

        void copyFrom(Scene other) {
            wide = other.wide;
            high = other.high;
            tile = other.tile;
            many = other.many;
            back = other.back;
            triangles = other.triangles;
            System.arraycopy(other.rules, 0, rules, 0, rules.length);
            System.arraycopy(other.pattern, 0, pattern, 0, pattern.length);
            System.arraycopy(other.color, 0, color, 0, color.length);
            System.arraycopy(other.alpha, 0, alpha, 0, alpha.length);
            System.arraycopy(other.z, 0, z, 0, z.length);
            System.arraycopy(other.corners, 0, corners, 0, corners.length);
        }
    }

    /** The STEPS of a SCRIPT. */
    private static final class Script {
        final int[] steps;
        int length;

        Script() {
            steps = new int[STEPS * STEP_SIZE];
            length = 0;
        }

        void take(int kind, int[] numbers, int many) {
            if (length >= STEPS) {
                return;
            }
            steps[length * STEP_SIZE] = kind;
            for (int i = 1; i < STEP_SIZE; i++) {
                steps[length * STEP_SIZE + i] = i <= many ? numbers[i - 1] : 0;
            }
            length++;
        }

        int kindOf(int i) {
            return i >= 0 && i < length ? steps[i * STEP_SIZE] : NO_ACT;
        }

        int number(int i, int which) {
            return i >= 0 && i < length && which >= 0 && which < STEP_SIZE ? steps[i * STEP_SIZE + which] : 0;
        }
    }

    /** Where PIXELS, SAMPLES and TILES lie. */
    private static final class Grid {
        // Of one, of two, of four SAMPLES, one behind another: those of n begin at n - 1.
        private static final int[] SAMPLE_X = {4, 2, 6, 3, 7, 1, 5};
        private static final int[] SAMPLE_Y = {4, 2, 6, 1, 3, 5, 7};

        int wide;
        int high;
        int size;
        int many;
        int columns;
        int tiles;
        int samples;
        // SAMPLES by TILES: those of a TILE are order[first[tile]] up to ahead of order[first[tile + 1]].
        final int[] order;
        final int[] first;
        final int[] pointX;
        final int[] pointY;

        Grid() {
            size = 1;
            many = 1;
            columns = 1;
            order = new int[SAMPLES];
            first = new int[TILES + 1];
            pointX = new int[SAMPLES];
            pointY = new int[SAMPLES];
        }

        static int placeOf(int x, int y) {
            return (y * SIDE + x) * PLACES;
        }

        boolean hasPixel(int x, int y) {
            return x >= 0 && x < wide && y >= 0 && y < high;
        }

        boolean hasSample(int x, int y, int sample) {
            return hasPixel(x, y) && sample >= 0 && sample < many;
        }

        boolean hasTile(int tile) {
            return tile >= 0 && tile < tiles;
        }

        void layOut(Scene scene) {
            wide = scene.wide;
            high = scene.high;
            size = Math.max(scene.tile, 2);
            many = scene.many;
            columns = (wide + size - 1) / size;
            tiles = columns * ((high + size - 1) / size);
            samples = 0;
            for (int tile = 0; tile < tiles; tile++) {
                first[tile] = samples;
                for (int y = topOf(tile); y < bottomOf(tile); y++) {
                    for (int x = leftOf(tile); x < rightOf(tile); x++) {
                        layOutPixel(x, y);
                    }
                }
            }
            first[tiles] = samples;
        }

        private void layOutPixel(int x, int y) {
            for (int k = 0; k < many && samples < SAMPLES; k++) {
                int place = placeOf(x, y) + k;
                order[samples] = place;
                pointX[place] = x * 8 + SAMPLE_X[many - 1 + k];
                pointY[place] = y * 8 + SAMPLE_Y[many - 1 + k];
                samples++;
            }
        }

        int leftOf(int tile) {
            return columns > 0 ? tile % columns * size : 0;
        }

        int rightOf(int tile) {
            return Math.min(leftOf(tile) + size, wide);
        }

        int topOf(int tile) {
            return columns > 0 ? tile / columns * size : 0;
        }

        int bottomOf(int tile) {
            return Math.min(topOf(tile) + size, high);
        }

        int pixelsOf(int tile) {
            return many > 0 ? (first[tile + 1] - first[tile]) / many : 0;
        }

        int resolved(Frame frame, int pixel) {
            int sum = 0;
            for (int k = 0; k < many; k++) {
                sum += frame.color[pixel * PLACES + k];
            }
            return many > 0 ? sum / many : 0;
        }

        int farOf(Frame frame, int tile) {
            int far = 0;
            for (int i = first[tile]; i < first[tile + 1]; i++) {
                int depth = frame.depth[order[i]];
                far = depth > far ? depth : far;
            }
            return far;
        }

        int nearOf(Frame frame, int tile) {
            int near = EMPTY_DEPTH;
            for (int i = first[tile]; i < first[tile + 1]; i++) {
                int depth = frame.depth[order[i]];
                near = depth < near ? depth : near;
            }
            return near;
        }

        int pendingIn(Frame frame, int tile) {
            int pending = 0;
            for (int i = first[tile]; i < first[tile + 1]; i++) {
                if (frame.pending[order[i]] != NONE) {
                    pending++;
                }
            }
            return pending;
        }
    }

    /** All that an ACT may change, so that it is UNDONE by a copy. */
    private static final class Frame {
        final int[] depth;
        final int[] color;
        final int[] pending;
        final int[] bins;
        final int[] binned;
        final int[] corners;
        final int[] rules;
        final long[] shaded;
        final int[] log;
        int logged;
        int skipped;
        int tested;
        int flushes;

        Frame() {
            depth = new int[SAMPLES];
            color = new int[SAMPLES];
            pending = new int[SAMPLES];
            bins = new int[TILES * BIN_LIMIT];
            binned = new int[TILES];
            corners = new int[TRIANGLES * 6];
            rules = new int[RULES];
            shaded = new long[TRIANGLES];
            log = new int[LOG_LIMIT * 3];
        }

        void beginWith(Scene scene) {
            wipe(scene.back);
            System.arraycopy(scene.corners, 0, corners, 0, corners.length);
            System.arraycopy(scene.rules, 0, rules, 0, rules.length);
            logged = 0;
        }

        int wipe(int back) {
            int were = 0;
            for (int tile = 0; tile < TILES; tile++) {
                were += binned[tile];
            }
            Arrays.fill(depth, EMPTY_DEPTH);
            Arrays.fill(color, back);
            Arrays.fill(pending, NONE);
            Arrays.fill(binned, 0);
            Arrays.fill(shaded, 0L);
            skipped = 0;
            tested = 0;
            flushes = 0;
            return were;
        }

        int pairs() {
            int pairs = 0;
            for (int t = 0; t < TRIANGLES; t++) {
                pairs += Long.bitCount(shaded[t]);
            }
            return pairs;
        }

        void note(int sort, int number) {
            int slot = Math.floorMod(logged, LOG_LIMIT) * 3;
            log[slot] = sort;
            log[slot + 1] = number;
            log[slot + 2] = pairs();
            logged++;
        }

        int logLength() {
            return Math.min(logged, LOG_LIMIT);
        }

        int noted(int i, int what) {
            return log[Math.floorMod(logged - 1 - i, LOG_LIMIT) * 3 + what];
        }

        void copyFrom(Frame other) {
            System.arraycopy(other.depth, 0, depth, 0, depth.length);
            System.arraycopy(other.color, 0, color, 0, color.length);
            System.arraycopy(other.pending, 0, pending, 0, pending.length);
            System.arraycopy(other.bins, 0, bins, 0, bins.length);
            System.arraycopy(other.binned, 0, binned, 0, binned.length);
            System.arraycopy(other.corners, 0, corners, 0, corners.length);
            System.arraycopy(other.rules, 0, rules, 0, rules.length);
            System.arraycopy(other.shaded, 0, shaded, 0, shaded.length);
            System.arraycopy(other.log, 0, log, 0, log.length);
            logged = other.logged;
            skipped = other.skipped;
            tested = other.tested;
            flushes = other.flushes;
        }
    }

    /** What was ahead of each of the latest ACTS. */
    private static final class History {
        private final Frame[] frames;
        private int next;
        int held;

        History() {
            frames = new Frame[UNDO_LIMIT];
            next = 0;
            held = 0;
        }

        void forget() {
            next = 0;
            held = 0;
        }

        // A frame is made only when it is first needed, and then used again: an object without ACTS stays small.
        void keep(Frame live) {
            Frame frame = frames[next];
            if (frame == null) {
                frame = new Frame();
                frames[next] = frame;
            }
            frame.copyFrom(live);
            next = next + 1 < UNDO_LIMIT ? next + 1 : 0;
            held = Math.min(held + 1, UNDO_LIMIT);
        }

        void restore(Frame live) {
            next = next > 0 ? next - 1 : UNDO_LIMIT - 1;
            Frame frame = frames[next];
            if (frame != null) {
                live.copyFrom(frame);
            }
            held--;
        }
    }

    /** A TRIANGLE where its CORNERS lie now; what follows from them is reckoned once. Whether it is CULLED is not known here. */
    private static final class Shape {
        private final int[] told;
        private boolean fitted;
        int area;
        int leastZ;
        int greatestZ;
        int touched;
        // SUM of an EDGE at a point is across times x, down times y and base, added up; it must be least or more.
        private final int[] across;
        private final int[] down;
        private final int[] base;
        private final int[] least;
        // DEPTH times the size of AREA, in the same three parts.
        private final int[] slope;
        final int[] depths;
        final int[] shades;

        Shape() {
            told = new int[6];
            fitted = false;
            across = new int[3];
            down = new int[3];
            base = new int[3];
            least = new int[3];
            slope = new int[3];
            depths = new int[SAMPLES];
            shades = new int[PIXELS];
        }

        void forget() {
            fitted = false;
        }

        void fitTo(Scene scene, Grid grid, int triangle, int[] corners) {
            boolean same = fitted;
            for (int i = 0; i < 6; i++) {
                int v = corners[triangle * 6 + i];
                same = same && told[i] == v;
                told[i] = v;
            }
            if (same) {
                return;
            }
            fitted = true;
            area = (told[2] - told[0]) * (told[5] - told[1]) - (told[3] - told[1]) * (told[4] - told[0]);
            int second = area < 0 ? 2 : 1;
            int third = 3 - second;
            layEdge(0, 0, second);
            layEdge(1, second, third);
            layEdge(2, third, 0);
            int z = triangle * 3;
            laySlope(scene.z[z], scene.z[z + second], scene.z[z + third]);
            fillDepths(grid);
            fillShades(scene.pattern[triangle], scene.color[triangle]);
            fillTouched(grid);
        }

        private void layEdge(int edge, int a, int b) {
            int ax = told[a * 2];
            int ay = told[a * 2 + 1];
            int bx = told[b * 2];
            int by = told[b * 2 + 1];
            across[edge] = ay - by;
            down[edge] = bx - ax;
            base[edge] = (by - ay) * ax - (bx - ax) * ay;
            boolean high = ay == by && bx > ax || by < ay;
            least[edge] = high ? 0 : 1;
        }

        private void laySlope(int first, int second, int third) {
            slope[0] = first * across[1] + second * across[2] + third * across[0];
            slope[1] = first * down[1] + second * down[2] + third * down[0];
            slope[2] = first * base[1] + second * base[2] + third * base[0];
            leastZ = Math.min(first, Math.min(second, third));
            greatestZ = Math.max(first, Math.max(second, third));
        }

        private void fillDepths(Grid grid) {
            for (int i = 0; i < grid.samples; i++) {
                int place = grid.order[i];
                int x = grid.pointX[place];
                int y = grid.pointY[place];
                depths[place] = covers(x, y) ? depthAt(x, y) : NONE;
            }
        }

        private void fillShades(int pattern, int color) {
            for (int pixel = 0; pixel < PIXELS; pixel++) {
                int x = pixel % SIDE;
                int y = pixel / SIDE;
                int shade = color;
                if (pattern == 1 && (x + y) % 2 != 0) {
                    shade = 255 - color;
                } else if (pattern == 2 && y % 2 != 0) {
                    shade = color / 2;
                } else if (pattern == 3) {
                    shade = color - Math.floorDiv(depthAt(x * 8 + 4, y * 8 + 4), 4);
                }
                shades[pixel] = Math.max(0, Math.min(255, shade));
            }
        }

        private void fillTouched(Grid grid) {
            touched = 0;
            for (int tile = 0; tile < grid.tiles; tile++) {
                int left = grid.leftOf(tile) * 8;
                int right = grid.rightOf(tile) * 8;
                int top = grid.topOf(tile) * 8;
                int bottom = grid.bottomOf(tile) * 8;
                boolean beside = isBeside(0, left, right) || isBeside(1, top, bottom);
                if (area != 0 && !beside && !isOutside(left, right, top, bottom)) {
                    touched |= 1 << tile;
                }
            }
        }

        // Which is 0 for x, 1 for y.
        private boolean isBeside(int which, int low, int high) {
            int smallest = Math.min(told[which], Math.min(told[2 + which], told[4 + which]));
            int greatest = Math.max(told[which], Math.max(told[2 + which], told[4 + which]));
            return greatest < low || smallest > high;
        }

        private boolean isOutside(int left, int right, int top, int bottom) {
            for (int edge = 0; edge < 3; edge++) {
                int above = Math.max(sumAt(edge, left, top), sumAt(edge, right, top));
                int below = Math.max(sumAt(edge, left, bottom), sumAt(edge, right, bottom));
                if (above < 0 && below < 0) {
                    return true;
                }
            }
            return false;
        }

        int sumAt(int edge, int x, int y) {
            return across[edge] * x + down[edge] * y + base[edge];
        }

        boolean covers(int x, int y) {
            if (area == 0) {
                return false;
            }
            for (int edge = 0; edge < 3; edge++) {
                if (across[edge] * x + down[edge] * y + base[edge] < least[edge]) {
                    return false;
                }
            }
            return true;
        }

        private int depthAt(int x, int y) {
            int size = area < 0 ? -area : area;
            return size == 0 ? 0 : Math.floorDiv(slope[0] * x + slope[1] * y + slope[2], size);
        }

        boolean isOnEdge(int x, int y) {
            boolean on = false;
            for (int edge = 0; edge < 3; edge++) {
                int sum = sumAt(edge, x, y);
                if (sum < 0) {
                    return false;
                }
                on = on || sum == 0;
            }
            return on;
        }
    }

    /** DRAWS, FLUSHES and the other ACTS on a frame. */
    private static final class Works {
        private static final int[] RULE_LOW = {0, 0, 0, 1};
        private static final int[] RULE_HIGH = {2, 1, 1, 10};

        private final Scene scene;
        private final Grid grid;
        final Shape[] shapes;

        Works(Scene itsScene, Grid itsGrid) {
            scene = itsScene;
            grid = itsGrid;
            shapes = new Shape[TRIANGLES];
            for (int t = 0; t < TRIANGLES; t++) {
                shapes[t] = new Shape();
            }
        }

        void forgetShapes() {
            for (int t = 0; t < TRIANGLES; t++) {
                shapes[t].forget();
            }
        }

        void fit(Frame frame) {
            for (int t = 0; t < scene.triangles; t++) {
                shapes[t].fitTo(scene, grid, t, frame.corners);
            }
        }

        boolean isCulled(Frame frame, int t) {
            int area = shapes[t].area;
            int cull = frame.rules[CULL];
            return area == 0 || cull == 1 && area < 0 || cull == 2 && area > 0;
        }

        int touchedBy(Frame frame, int t) {
            return isCulled(frame, t) ? 0 : shapes[t].touched;
        }

        int depthIn(Frame frame, int t, int place) {
            return isCulled(frame, t) ? NONE : shapes[t].depths[place];
        }

        int touchedInVain(Frame frame, int t) {
            int bits = touchedBy(frame, t);
            for (int tile = 0; tile < grid.tiles; tile++) {
                for (int i = grid.first[tile]; i < grid.first[tile + 1]; i++) {
                    if (shapes[t].depths[grid.order[i]] >= 0) {
                        bits &= ~(1 << tile);
                    }
                }
            }
            return bits;
        }

        int coveredBy(Frame frame, int t) {
            int covered = 0;
            for (int i = 0; i < grid.samples; i++) {
                if (depthIn(frame, t, grid.order[i]) >= 0) {
                    covered++;
                }
            }
            return covered;
        }

        int rankOf(Frame frame, int t, int place) {
            int own = depthIn(frame, t, place);
            int rank = 0;
            for (int other = 0; other < scene.triangles; other++) {
                int depth = depthIn(frame, other, place);
                if (depth >= 0 && (depth < own || depth == own && other < t)) {
                    rank++;
                }
            }
            return rank;
        }

        int timesInBins(Frame frame, int t) {
            int times = 0;
            for (int tile = 0; tile < grid.tiles; tile++) {
                for (int i = 0; i < frame.binned[tile] && i < BIN_LIMIT; i++) {
                    if (frame.bins[tile * BIN_LIMIT + i] == t) {
                        times++;
                    }
                }
            }
            return times;
        }

        int binnedOnes(Frame frame) {
            int bits = 0;
            for (int t = 0; t < scene.triangles; t++) {
                if (timesInBins(frame, t) > 0) {
                    bits |= 1 << t;
                }
            }
            return bits;
        }

        int culledOnes(Frame frame) {
            int bits = 0;
            for (int t = 0; t < scene.triangles; t++) {
                if (isCulled(frame, t)) {
                    bits |= 1 << t;
                }
            }
            return bits;
        }

        int fullestTile(Frame frame) {
            int fullest = 0;
            for (int tile = 1; tile < grid.tiles; tile++) {
                if (frame.binned[tile] > frame.binned[fullest]) {
                    fullest = tile;
                }
            }
            return fullest;
        }

        int pendingInAll(Frame frame) {
            int pending = 0;
            for (int tile = 0; tile < grid.tiles; tile++) {
                pending += grid.pendingIn(frame, tile);
            }
            return pending;
        }

        /** The STATUS by which an ACT is refused; NONE, if it can be. */
        int refusal(Frame frame, int kind, int a, int b, int c, int d) {
            if (scene.triangles == 0) {
                return NO_SUCH;
            }
            switch (kind) {
                case DRAW:
                    if (!scene.has(a)) {
                        return NO_SUCH;
                    }
                    return touchedBy(frame, a) == 0 ? NOTHING_TO_DO : NONE;
                case FLUSH:
                    if (!grid.hasTile(a)) {
                        return NO_SUCH;
                    }
                    return frame.binned[a] == 0 && grid.pendingIn(frame, a) == 0 ? NOTHING_TO_DO : NONE;
                case ALL:
                case CLEAR:
                    return NONE;
                case MOVE:
                    return refusalOfMove(frame, a, b, c, d);
                default:
                    return refusalOfRule(frame, kind - RULE, a);
            }
        }

        private int refusalOfRule(Frame frame, int rule, int v) {
            if (rule < 0 || rule >= RULES || v < RULE_LOW[rule] || v > RULE_HIGH[rule]) {
                return OUT_OF_BOUNDS;
            }
            return frame.rules[rule] == v ? NOTHING_TO_DO : NONE;
        }

        private int refusalOfMove(Frame frame, int t, int corner, int across, int down) {
            if (!scene.has(t)) {
                return NO_SUCH;
            }
            if (corner < 0 || corner > 2 || !isMove(across) || !isMove(down)) {
                return OUT_OF_BOUNDS;
            }
            int at = t * 6 + corner * 2;
            if (!isPoint(frame.corners[at] + across) || !isPoint(frame.corners[at + 1] + down)) {
                return OUT_OF_BOUNDS;
            }
            if (across == 0 && down == 0) {
                return NOTHING_TO_DO;
            }
            return timesInBins(frame, t) > 0 ? IN_A_BIN : NONE;
        }

        private static boolean isMove(int v) {
            return v >= -MOVE_LIMIT && v <= MOVE_LIMIT;
        }

        /** An ACT that is not refused: what it answers. */
        int carryOut(Frame frame, int kind, int a, int b, int c, int d) {
            switch (kind) {
                case DRAW: return drawOne(frame, a);
                case FLUSH: return flushTile(frame, a);
                case ALL: return flushAll(frame);
                case CLEAR: return frame.wipe(scene.back);
                case MOVE: return moveCorner(frame, a, b, c, d);
                default: return changeRule(frame, kind - RULE, a);
            }
        }

        private int changeRule(Frame frame, int rule, int v) {
            if (rule < 0 || rule >= RULES) {
                return NONE;
            }
            int was = frame.rules[rule];
            frame.rules[rule] = v;
            return was;
        }

        private int moveCorner(Frame frame, int t, int corner, int across, int down) {
            if (!scene.has(t) || corner < 0 || corner > 2) {
                return HIDDEN;
            }
            frame.corners[t * 6 + corner * 2] += across;
            frame.corners[t * 6 + corner * 2 + 1] += down;
            shapes[t].fitTo(scene, grid, t, frame.corners);
            return shapes[t].area;
        }

        int drawOne(Frame frame, int t) {
            int touched = scene.has(t) ? touchedBy(frame, t) : 0;
            int bins = 0;
            for (int tile = 0; tile < grid.tiles; tile++) {
                if (((touched >> tile) & 1) == 0) {
                    continue;
                }
                if (frame.binned[tile] >= frame.rules[ROOM] || frame.binned[tile] >= BIN_LIMIT) {
                    flushTile(frame, tile);
                }
                frame.bins[tile * BIN_LIMIT + frame.binned[tile]] = t;
                frame.binned[tile]++;
                bins++;
            }
            return bins;
        }

        int flushAll(Frame frame) {
            int filled = 0;
            for (int tile = 0; tile < grid.tiles; tile++) {
                if (flushTile(frame, tile) > 0) {
                    filled++;
                }
            }
            return filled;
        }

        int flushTile(Frame frame, int tile) {
            if (!grid.hasTile(tile)) {
                return 0;
            }
            int were = Math.min(frame.binned[tile], BIN_LIMIT);
            for (int i = 0; i < were; i++) {
                int t = frame.bins[tile * BIN_LIMIT + i];
                if (!scene.has(t)) {
                    continue;
                }
                if (isBehind(frame, t, tile)) {
                    frame.skipped++;
                } else if (!isCulled(frame, t)) {
                    layOne(frame, t, tile);
                }
            }
            frame.binned[tile] = 0;
            for (int i = grid.first[tile]; i < grid.first[tile + 1]; i++) {
                shadePending(frame, grid.order[i]);
            }
            if (were > 0) {
                frame.flushes++;
            }
            return were;
        }

        private boolean isBehind(Frame frame, int t, int tile) {
            return shapes[t].leastZ >= grid.farOf(frame, tile) + frame.rules[TEST];
        }

        private void layOne(Frame frame, int t, int tile) {
            int[] depths = shapes[t].depths;
            int alpha = scene.alpha[t];
            boolean late = frame.rules[LATE] == 1;
            for (int i = grid.first[tile]; i < grid.first[tile + 1]; i++) {
                int place = grid.order[i];
                if (!passes(frame, depths[place], place)) {
                    continue;
                }
                if (alpha < OPAQUE) {
                    shadePending(frame, place);
                    blend(frame, t, place);
                    continue;
                }
                frame.depth[place] = depths[place];
                frame.pending[place] = t;
                if (!late) {
                    shadePending(frame, place);
                }
            }
        }

        // It is less than what is there, by test 1 also if as great; one that COVERS not is NONE and not TESTED.
        private boolean passes(Frame frame, int depth, int place) {
            if (depth < 0) {
                return false;
            }
            frame.tested++;
            return depth < frame.depth[place] + frame.rules[TEST];
        }

        private void blend(Frame frame, int t, int place) {
            int alpha = scene.alpha[t];
            int shade = shapes[t].shades[place / PLACES];
            frame.color[place] = (shade * alpha + frame.color[place] * (OPAQUE - alpha)) / OPAQUE;
            frame.shaded[t] |= 1L << (place / PLACES);
        }

        private void shadePending(Frame frame, int place) {
            int t = frame.pending[place];
            if (t >= 0 && t < TRIANGLES) {
                frame.color[place] = shapes[t].shades[place / PLACES];
                frame.shaded[t] |= 1L << (place / PLACES);
            }
            frame.pending[place] = NONE;
        }
    }

    /** What is tried apart: the live frame is only looked at. */
    private static final class Studies {
        private final Scene scene;
        private final Grid grid;
        private final Works works;
        private final int[] pixels;
        private final int[] chosen;
        private final int[] left;
        final Frame apart;
        final int[] found;

        Studies(Scene itsScene, Grid itsGrid, Works itsWorks) {
            scene = itsScene;
            grid = itsGrid;
            works = itsWorks;
            pixels = new int[PIXELS];
            chosen = new int[ORDERED];
            left = new int[ORDERED];
            apart = new Frame();
            found = new int[3];
        }

        void flushApart(Frame live) {
            apart.copyFrom(live);
            works.flushAll(apart);
        }

        void drawWhole(Frame live, int late, int without) {
            apart.copyFrom(live);
            apart.rules[LATE] = late;
            apart.wipe(scene.back);
            for (int t = 0; t < scene.triangles; t++) {
                if (t != without) {
                    works.drawOne(apart, t);
                }
            }
            works.flushAll(apart);
        }

        int leftOf(Frame live, int triangle) {
            drawWhole(live, live.rules[LATE], NONE);
            for (int pixel = 0; pixel < PIXELS; pixel++) {
                pixels[pixel] = grid.resolved(apart, pixel);
            }
            drawWhole(live, live.rules[LATE], triangle);
            int otherwise = 0;
            for (int pixel = 0; pixel < PIXELS; pixel++) {
                if (pixels[pixel] != grid.resolved(apart, pixel)) {
                    otherwise++;
                }
            }
            return otherwise;
        }

        int hidesOf(Frame live) {
            drawWhole(live, live.rules[LATE], NONE);
            int bits = 0;
            for (int t = 0; t < scene.triangles; t++) {
                if (apart.shaded[t] == 0L) {
                    bits |= 1 << t;
                }
            }
            return bits;
        }

        int savedOf(Frame live) {
            drawWhole(live, 0, NONE);
            int early = apart.pairs();
            drawWhole(live, 1, NONE);
            return early - apart.pairs();
        }

        /** How many SAMPLES just so many (1, 2) of the two COVER. */
        int sharedBy(Frame live, int one, int other, int many) {
            int samples = 0;
            for (int i = 0; i < grid.samples; i++) {
                if (coveringAt(live, one, other, grid.order[i]) == many) {
                    samples++;
                }
            }
            return samples;
        }

        private int coveringAt(Frame live, int one, int other, int place) {
            int first = works.depthIn(live, one, place) >= 0 ? 1 : 0;
            int second = works.depthIn(live, other, place) >= 0 ? 1 : 0;
            return first + second;
        }

        /** How many SAMPLES on the BORDER (0), of these how many that just so many (1, 2) of the two COVER. */
        int onBorder(Frame live, int one, int other, int many) {
            if (works.isCulled(live, one) || works.isCulled(live, other)) {
                return 0;
            }
            int samples = 0;
            for (int i = 0; i < grid.samples; i++) {
                int place = grid.order[i];
                int x = grid.pointX[place];
                int y = grid.pointY[place];
                boolean on = works.shapes[one].isOnEdge(x, y) && works.shapes[other].isOnEdge(x, y);
                if (on && (many == 0 || coveringAt(live, one, other, place) == many)) {
                    samples++;
                }
            }
            return samples;
        }

        int runOf(Frame live, Script script) {
            apart.copyFrom(live);
            for (int i = 0; i < script.length; i++) {
                int kind = script.kindOf(i);
                int a = script.number(i, 1);
                int b = script.number(i, 2);
                int c = script.number(i, 3);
                int d = script.number(i, 4);
                if (works.refusal(apart, kind, a, b, c, d) != NONE) {
                    return i;
                }
                works.carryOut(apart, kind, a, b, c, d);
            }
            return script.length;
        }

        /** Found: the fewest, the first order by which it is so, the most. */
        void tryOrders(Frame live) {
            Arrays.fill(found, 0);
            apart.copyFrom(live);
            apart.rules[LATE] = 0;
            int many = chooseOpaque(live);
            int orders = ordersOf(many);
            for (int order = 0; order < orders && many > 0; order++) {
                drawInOrder(order, many);
                int pairs = apart.pairs();
                if (order == 0 || pairs < found[0]) {
                    found[0] = pairs;
                    found[1] = order;
                }
                found[2] = Math.max(found[2], pairs);
            }
        }

        private int chooseOpaque(Frame live) {
            int many = 0;
            for (int t = 0; t < scene.triangles && many < ORDERED; t++) {
                if (scene.alpha[t] == OPAQUE && !works.isCulled(live, t)) {
                    chosen[many] = t;
                    many++;
                }
            }
            return many;
        }

        private static int ordersOf(int many) {
            int orders = 1;
            for (int i = 2; i <= many; i++) {
                orders *= i;
            }
            return orders;
        }

        // The place of the next one among those that are left is the next digit of the order's number, by factorials.
        private void drawInOrder(int order, int many) {
            System.arraycopy(chosen, 0, left, 0, ORDERED);
            apart.wipe(scene.back);
            int rest = order;
            for (int remaining = many; remaining > 0; remaining--) {
                int block = ordersOf(remaining - 1);
                int which = block > 0 ? rest / block : 0;
                rest -= which * block;
                if (which < 0 || which >= ORDERED) {
                    return;
                }
                works.drawOne(apart, left[which]);
                for (int i = which; i + 1 < ORDERED; i++) {
                    left[i] = left[i + 1];
                }
            }
            works.flushAll(apart);
        }

        /** Found: the most SAMPLES, the first shift by which it is so, by how many shifts as many as now. */
        void tryShifts(Frame live, int triangle, int n) {
            Arrays.fill(found, 0);
            int now = works.coveredBy(live, triangle);
            boolean culled = works.isCulled(live, triangle);
            int shift = 0;
            for (int down = -n; down <= n; down++) {
                for (int across = -n; across <= n; across++) {
                    int covered = culled ? 0 : coveredShifted(triangle, across, down);
                    if (covered > found[0]) {
                        found[0] = covered;
                        found[1] = shift;
                    }
                    if (covered == now) {
                        found[2]++;
                    }
                    shift++;
                }
            }
        }

        // A moved TRIANGLE COVERS a point, if it COVERS unmoved the point moved the other way.
        private int coveredShifted(int triangle, int across, int down) {
            Shape shape = works.shapes[triangle];
            int covered = 0;
            for (int i = 0; i < grid.samples; i++) {
                int place = grid.order[i];
                if (shape.covers(grid.pointX[place] - across, grid.pointY[place] - down)) {
                    covered++;
                }
            }
            return covered;
        }
    }
}
