/** Promises 16 to 20: tracks, chariots, acts, ticks. */
public final class ChariotsTest {
    private static final int NONE = OldStadium.NONE;
    private static final int[] DELAYS = {-1, 21, Integer.MAX_VALUE, Integer.MIN_VALUE};

    public static void main(String[] args) {
        track();
        trackAnew();
        chariot();
        drive();
        run();
        at();
        gates();
        actsGoRound();
        actsAreOfItsOwnTicks();
        stepsOneByOne();
        laps();
        homeOfOneStep();
        homeAheadOfCrash();
        lanes();
        swapIsNoCrash();
        threeCrash();
        crashAtTheGate();
        gateToGate();
        Check.end();
    }

    private static OldStadium on(int lanes, int cells, int laps) {
        OldStadium x = new OldStadium();
        Check.is("track", x.track(lanes, cells, laps), true);
        return x;
    }

    /** A chariot with acts told as forward, side, forward, side, .. */
    private static void add(OldStadium x, int number, int lane, int delay, int... acts) {
        Check.is("chariot in lane " + lane, x.chariot(lane, delay), number);
        for (int i = 0; i < acts.length; i += 2) {
            Check.is("act " + i / 2 + " of " + number, x.drive(number, acts[i], acts[i + 1]), i / 2 + 1);
        }
    }

    private static void at(String when, OldStadium x, int chariot, int... due) {
        for (int what = 0; what < due.length; what++) {
            Check.is(when + ": at(" + chariot + ", " + what + ")", x.at(chariot, what), due[what]);
        }
    }

    private static void track() {
        int[][] good = {{1, 4, 1}, {8, 60, 9}, {8, 4, 9}, {1, 60, 1}};
        int[][] bad = {{0, 4, 1}, {9, 4, 1}, {1, 3, 1}, {1, 61, 1}, {1, 4, 0}, {1, 4, 10}, {-1, -1, -1}};
        OldStadium x = new OldStadium();
        for (int[] b : bad) {
            Check.is("bad track", x.track(b[0], b[1], b[2]), false);
            Check.is("no track", x.run(0), NONE);
        }
        for (int[] g : good) {
            Check.is("good track", x.track(g[0], g[1], g[2]), true);
            Check.is("a track", x.run(0), 0);
            Check.is("lane behind", x.chariot(g[0], 0), NONE);
            Check.is("last lane", x.chariot(g[0] - 1, 0), 0);
        }
        x = on(2, 5, 1);
        add(x, 0, 0, 0, 1, 0);
        x.run(1);
        for (int[] b : bad) {
            Check.is("bad track later", x.track(b[0], b[1], b[2]), false);
        }
        at("a refused track changes nothing", x, 0, 1, 0, 1, 0, 0, 0);
    }

    private static void trackAnew() {
        OldStadium x = on(2, 4, 1);
        add(x, 0, 0, 0, 4, 0);
        Check.is("home at once", x.run(1), 0);
        at("home", x, 0, 2, 0, 0, 1, 1, 1);
        x.track(2, 4, 1);
        Check.is("no chariots then", x.at(0, 0), NONE);
        add(x, 0, 1, 0);
        at("anew", x, 0, 0, 1, 0, 0, 0, 0);
        Check.is("no acts then", x.run(3), 1);
        at("it stands", x, 0, 1, 1, 0, 0, 0, 0);
        x.track(2, 4, 1);
        add(x, 0, 1, 0, 4, 0);
        x.run(1);
        at("ticks and places from 1 on", x, 0, 2, 1, 0, 1, 1, 1);
        x.track(2, 9, 2);
        add(x, 0, 1, 0, 4, 0);
        x.run(4);
        at("under way", x, 0, 1, 1, 7, 1, 0, 0);
        x.track(2, 9, 2);
        add(x, 0, 1, 1);
        at("a new one begins at cell 0", x, 0, 0, 1, 0, 0, 0, 0);
    }

    private static void chariot() {
        OldStadium x = new OldStadium();
        Check.is("chariot without a track", x.chariot(0, 0), NONE);
        x = on(8, 4, 1);
        for (int delay : DELAYS) {
            Check.is("delay " + delay, x.chariot(0, delay), NONE);
        }
        Check.is("lane -1", x.chariot(-1, 0), NONE);
        Check.is("lane 8", x.chariot(8, 0), NONE);
        Check.is("delay 20", x.chariot(7, 20), 0);
        Check.is("taken", x.chariot(7, 0), NONE);
        Check.is("none more", x.at(1, 0), NONE);
        for (int lane = 0; lane < 7; lane++) {
            Check.is("chariot in " + lane, x.chariot(lane, 0), lane + 1);
        }
        for (int lane = 0; lane < 8; lane++) {
            Check.is("more in " + lane, x.chariot(lane, 0), NONE);
        }
        x = on(2, 4, 1);
        x.run(0);
        Check.is("run(0) is no tick", x.chariot(0, 0), 0);
        x.run(1);
        Check.is("a tick was", x.chariot(1, 0), NONE);
        x.track(2, 4, 1);
        x.run(1);
        Check.is("a tick was without chariots", x.chariot(1, 0), NONE);
        x.track(2, 4, 1);
        Check.is("a new track has no tick", x.chariot(1, 0), 0);
    }

    private static void drive() {
        OldStadium x = new OldStadium();
        Check.is("drive without a track", x.drive(0, 0, 0), NONE);
        x = on(1, 4, 1);
        Check.is("drive without a chariot", x.drive(0, 0, 0), NONE);
        x.chariot(0, 0);
        int[][] bad = {{-1, 0, 0}, {1, 0, 0}, {0, -1, 0}, {0, 5, 0}, {0, 0, -2}, {0, 0, 2}};
        for (int[] b : bad) {
            Check.is("bad drive", x.drive(b[0], b[1], b[2]), NONE);
        }
        for (int i = 1; i <= 12; i++) {
            Check.is("act " + i, x.drive(0, i % 5, i % 3 - 1), i);
        }
        Check.is("act 13", x.drive(0, 0, 0), NONE);
        x = on(1, 4, 1);
        add(x, 0, 0, 0, 0, 0);
        x.run(0);
        Check.is("run(0) is no tick", x.drive(0, 0, 0), 2);
        x.run(1);
        Check.is("a tick was", x.drive(0, 0, 0), NONE);
    }

    private static void run() {
        OldStadium x = new OldStadium();
        Check.is("run without a track", x.run(1), NONE);
        x = on(3, 60, 9);
        add(x, 0, 0, 0, 1, 0);
        add(x, 1, 2, 1, 1, 0);
        Check.is("run(-1)", x.run(-1), NONE);
        Check.is("run(201)", x.run(201), NONE);
        Check.is("run(0)", x.run(0), 0);
        Check.is("run(1)", x.run(1), 1);
        Check.is("run(0) then", x.run(0), 1);
        Check.is("run(2)", x.run(2), 2);
        at("three ticks", x, 0, 1, 0, 3, 0, 0, 0);
        Check.is("run(200)", x.run(200), 2);
        at("203 ticks", x, 0, 1, 0, 203 % 60, 3, 0, 0);
        at("202 ticks of its own", x, 1, 1, 2, 202 % 60, 3, 0, 0);
        Check.is("run(200) more", x.run(200), 2);
        Check.is("to the end", x.run(137), 1);
        at("540 ticks", x, 0, 2, 0, 0, 9, 540, 1);
        Check.is("one more", x.run(1), 0);
        at("541 ticks", x, 1, 2, 2, 0, 9, 541, 2);
    }

    private static void at() {
        OldStadium x = on(2, 4, 1);
        Check.is("at without a chariot", x.at(0, 0), NONE);
        add(x, 0, 1, 5);
        at("in the gate", x, 0, 0, 1, 0, 0, 0, 0);
        Check.is("at(0, 6)", x.at(0, 6), NONE);
        Check.is("at(0, -1)", x.at(0, -1), NONE);
        Check.is("at(1, 0)", x.at(1, 0), NONE);
        Check.is("at(-1, 0)", x.at(-1, 0), NONE);
    }

    private static void gates() {
        OldStadium x = on(2, 10, 9);
        add(x, 0, 0, 20, 1, 0);
        add(x, 1, 1, 0, 2, 0);
        Check.is("20 ticks", x.run(20), 1);
        at("still in the gate", x, 0, 0, 0, 0, 0, 0, 0);
        at("20 ticks on", x, 1, 1, 1, 0, 4, 0, 0);
        Check.is("tick 21", x.run(1), 2);
        at("on the track", x, 0, 1, 0, 1, 0, 0, 0);
    }

    private static void actsGoRound() {
        OldStadium x = on(1, 60, 1);
        add(x, 0, 0, 0, 4, 0, 0, 0, 1, 0);
        int[] due = {4, 4, 5, 9, 9, 10, 14};
        for (int i = 0; i < due.length; i++) {
            x.run(1);
            Check.is("cell behind tick " + (i + 1), x.at(0, 2), due[i]);
        }
    }

    private static void actsAreOfItsOwnTicks() {
        OldStadium x = on(1, 60, 1);
        add(x, 0, 0, 3, 4, 0, 1, 0);
        int[] due = {0, 0, 0, 4, 5, 9};
        for (int i = 0; i < due.length; i++) {
            x.run(1);
            Check.is("cell behind tick " + (i + 1) + " of a late one", x.at(0, 2), due[i]);
        }
    }

    /** One with four steps runs into one that stands, and through none that goes as fast. */
    private static void stepsOneByOne() {
        OldStadium x = on(2, 20, 1);
        add(x, 0, 0, 0, 2, 1, 0, 0);
        add(x, 1, 1, 1, 3, 0);
        x.run(1);
        at("one ahead", x, 0, 1, 1, 2, 0, 0, 0);
        Check.is("both crash", x.run(1), 0);
        at("run into", x, 0, 3, 1, 2, 0, 2, 0);
        at("ran into it in step 2", x, 1, 3, 1, 2, 0, 2, 0);
        x = on(2, 20, 1);
        add(x, 0, 0, 0, 2, 1, 2, 0);
        add(x, 1, 1, 1, 4, 0);
        x.run(1);
        Check.is("caught in step 4", x.run(1), 0);
        at("caught", x, 0, 3, 1, 4, 0, 2, 0);
        at("caught it", x, 1, 3, 1, 4, 0, 2, 0);
        x = on(2, 20, 1);
        add(x, 0, 0, 0, 2, 1, 3, 0);
        add(x, 1, 1, 1, 4, 0);
        x.run(1);
        Check.is("not caught", x.run(1), 2);
        at("one cell ahead", x, 0, 1, 1, 5, 0, 0, 0);
        at("one cell behind", x, 1, 1, 1, 4, 0, 0, 0);
    }

    private static void laps() {
        OldStadium x = on(1, 4, 2);
        add(x, 0, 0, 0, 3, 0);
        x.run(1);
        at("three on", x, 0, 1, 0, 3, 0, 0, 0);
        x.run(1);
        at("a lap", x, 0, 1, 0, 2, 1, 0, 0);
        x.run(1);
        at("home at cell 0, its third step left off", x, 0, 2, 0, 0, 2, 3, 1);
        x.run(5);
        at("it stays", x, 0, 2, 0, 0, 2, 3, 1);
    }

    private static void homeOfOneStep() {
        OldStadium x = on(4, 4, 1);
        add(x, 0, 3, 0, 4, 0);
        add(x, 1, 1, 0, 4, 0);
        add(x, 2, 2, 0, 2, 0);
        add(x, 3, 0, 1, 4, 0);
        Check.is("two home", x.run(1), 1);
        at("the greater lane", x, 0, 2, 3, 0, 1, 1, 2);
        at("the less lane", x, 1, 2, 1, 0, 1, 1, 1);
        Check.is("all home", x.run(1), 0);
        at("in step 2", x, 2, 2, 2, 0, 1, 2, 3);
        at("in step 4 by a less lane", x, 3, 2, 0, 0, 1, 2, 4);
    }

    /** One that comes home leaves the cell ahead of the crash. */
    private static void homeAheadOfCrash() {
        OldStadium x = on(2, 4, 1);
        add(x, 0, 0, 0, 4, 0);
        add(x, 1, 1, 0, 0, -1);
        Check.is("tick 1", x.run(1), 1);
        at("home", x, 0, 2, 0, 0, 1, 1, 1);
        at("goes over its cell", x, 1, 1, 0, 0, 0, 0, 0);
        x = on(2, 4, 1);
        add(x, 0, 0, 0, 3, 1, 1, 0);
        add(x, 1, 1, 1, 0, 0);
        x.run(1);
        at("ahead of the line", x, 0, 1, 1, 3, 0, 0, 0);
        Check.is("one comes in, one goes home", x.run(1), 1);
        at("home into a cell where one stands", x, 0, 2, 1, 0, 1, 2, 1);
        at("stands on", x, 1, 1, 1, 0, 0, 0, 0);
    }

    private static void lanes() {
        OldStadium x = on(3, 20, 1);
        add(x, 0, 0, 0, 1, -1, 1, 1);
        add(x, 1, 2, 0, 2, 1, 2, -1);
        x.run(1);
        at("no lane below 0", x, 0, 1, 0, 1, 0, 0, 0);
        at("no lane above", x, 1, 1, 2, 2, 0, 0, 0);
        x.run(1);
        at("to the next lane", x, 0, 1, 1, 2, 0, 0, 0);
        at("down to it", x, 1, 1, 1, 4, 0, 0, 0);
    }

    private static void swapIsNoCrash() {
        OldStadium x = on(2, 20, 1);
        add(x, 0, 0, 0, 1, 1);
        add(x, 1, 1, 0, 1, -1);
        Check.is("both go on", x.run(1), 2);
        at("up", x, 0, 1, 1, 1, 0, 0, 0);
        at("down", x, 1, 1, 0, 1, 0, 0, 0);
    }

    private static void threeCrash() {
        OldStadium x = on(3, 20, 1);
        add(x, 0, 0, 0, 1, 1);
        add(x, 1, 1, 0, 1, 0);
        add(x, 2, 2, 0, 1, -1);
        Check.is("none is left", x.run(1), 0);
        for (int c = 0; c < 3; c++) {
            at("three in one cell", x, c, 3, 1, 1, 0, 1, 0);
        }
        x.run(3);
        at("they stay", x, 1, 3, 1, 1, 0, 1, 0);
    }

    private static void crashAtTheGate() {
        OldStadium x = on(2, 10, 1);
        add(x, 0, 0, 0, 0, 1, 0, 0, 4, 0);
        add(x, 1, 1, 2, 4, 0);
        Check.is("one waits at the gate's cell", x.run(2), 1);
        Check.is("crash as it comes in", x.run(1), 0);
        at("hit ahead of its steps", x, 0, 3, 1, 0, 0, 3, 0);
        at("hit as it came", x, 1, 3, 1, 0, 0, 3, 0);
    }

    /** What is off the track or in the gate is in nobody's way. */
    private static void gateToGate() {
        OldStadium x = on(2, 10, 1);
        add(x, 0, 0, 0, 0, 1, 1, 0);
        add(x, 1, 1, 1, 0, 0);
        Check.is("into the cell of one in the gate", x.run(1), 1);
        at("no crash", x, 0, 1, 1, 0, 0, 0, 0);
        x.run(1);
        at("crash with who comes in", x, 0, 3, 1, 0, 0, 2, 0);
        x = on(3, 10, 1);
        add(x, 0, 0, 0, 1, 1, 1, 0);
        add(x, 1, 1, 0, 1, 0);
        add(x, 2, 2, 1, 1, -1);
        Check.is("two crash", x.run(1), 0);
        Check.is("the third goes through their cell", x.run(1), 1);
        at("goes on", x, 2, 1, 1, 1, 0, 0, 0);
    }
}
