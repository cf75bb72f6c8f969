import java.lang.management.ManagementFactory;

/** What a run makes is counted and never given back: calls make nothing anew, but for what ACTS need to be UNDONE. */
public final class RoomTest {
    private static int wrong = 0;
    private static long sum = 0;
    private static boolean judged = false;
    // What the measuring itself makes.
    private static final long SLACK = 4000;

    public static void main(String[] args) {
        // The machine makes things of its own when a class is first used: only the second run is judged.
        run();
        wrong = 0;
        judged = true;
        run();
        if (wrong != 0) System.exit(1);
        System.out.println("the room is kept (" + sum % 10 + ")");
    }

    private static long bytes() {
        return ((com.sun.management.ThreadMXBean) ManagementFactory.getThreadMXBean()).getCurrentThreadAllocatedBytes();
    }

    private static void atMost(String what, long from, long limit) {
        long made = bytes() - from;
        if (judged && made > limit + SLACK) {
            wrong++;
            System.out.println(what + " made " + made + " bytes, due are " + limit + " at most");
        }
    }

    private static void run() {
        bytes();
        long from = bytes();
        TileLights x = new TileLights();
        atMost("an object", from, 60000);
        String text = "many 4;tile 2;room 2";
        for (int i = 0; i < 10; i++) text += ";deep 0,0," + (20 - i) + ",64,0,5,0,64,9,9," + (i % 3 == 2 ? 4 : 8);
        String script = "draw 0;draw 1;all;move 0,0,1,1;draw 2;draw 3;draw 4;clear;cull 1;cull 0;test 1;late 0";
        int[] scene = numbers(text);
        int[] steps = numbers(script);
        from = bytes();
        sum += feed(x, scene, 0) + feed(x, steps, 1);
        atMost("texts", from, 0);
        from = bytes();
        sum += x.years(40, 5L);
        atMost("the ACTS that can be UNDONE", from, 40 * 8000);
        from = bytes();
        for (int i = 0; i < 512; i++) dear(x, i);
        atMost("calls", from, 0);
    }

    private static int[] numbers(String text) {
        int[] v = new int[(text.length() + 19) / 20 * 5];
        for (int i = 0; i < v.length * 4; i++) v[i / 4] = v[i / 4] << 8 | (i < text.length() ? text.charAt(i) : 0);
        return v;
    }

    private static int feed(TileLights x, int[] v, int sort) {
        for (int i = 0; i < v.length; i += 5) x.feed(v[i], v[i + 1], v[i + 2], v[i + 3], v[i + 4]);
        return x.fault(sort) + x.text(sort);
    }

    private static void dear(TileLights x, int i) {
        switch (i % 14) {
            case 0: sum += x.orders(i % 3); break;
            case 1: sum += x.shifts(i % 10, 3, i % 3); break;
            case 2: sum += x.most(i % 10); break;
            case 3: sum += x.left(i % 10); break;
            case 4: sum += x.run(0, i % 2); break;
            case 5: sum += x.perform(0); break;
            case 6: sum += x.years(40, i); break;
            case 7: sum += x.image(); break;
            case 8: sum += x.back(); break;
            case 9: sum += x.whole(i % 8, 3); break;
            case 10: sum += x.shown(i % 8, 3); break;
            case 11: sum += x.border(i % 10, 3, 1); break;
            case 12: sum += x.layer(i % 8, 1, 1, 1); break;
            default: sum += x.undo(); break;
        }
    }
}
