import java.util.List;
import java.util.function.Supplier;

/** Promises 16 to 20 and term 3: each sentence that names a boundary, by itself. */
public final class BoundsChariotsTest {
    private static final int NONE = OldStadium.NONE;
    private static final int MIN = Integer.MIN_VALUE;
    private static final int MAX = Integer.MAX_VALUE;
    private static final int IN_GATE = 0;
    private static final int ON_TRACK = 1;
    private static final int HOME = 2;
    private static final int CRASHED = 3;

    public static void main(String[] args) {
        promise16();
        promise17();
        promise18();
        promise19();
        promise20();
        gates();
        actsInTurn();
        cellsAndLaps();
        home();
        crashes();
        sides();
        lastCall();
        Check.end();
    }

    // ---- states

    private static OldStadium track(int lanes, int cells, int laps) {
        OldStadium x = new OldStadium();
        Check.is("track", x.track(lanes, cells, laps), true);
        return x;
    }

    /** A chariot with acts told as forward, side, forward, side, .. */
    private static void add(OldStadium x, int number, int lane, int delay, int... acts) {
        Check.is("chariot in lane " + lane, x.chariot(lane, delay), number);
        for (int i = 0; i < acts.length; i += 2) {
            Check.is("act " + i / 2 + " of " + number, x.drive(number, acts[i], acts[i + 1]), i / 2 + 1);
        }
    }

    /** Two chariots of four lanes; no tick was. */
    private static OldStadium ready() {
        OldStadium x = track(4, 10, 2);
        add(x, 0, 1, 0, 2, 0, 3, 1);
        add(x, 1, 3, 4, 1, -1);
        return x;
    }

    /** One is on the track, one is home, two have crashed, one is in the gate. */
    private static OldStadium amid() {
        OldStadium x = track(8, 4, 1);
        add(x, 0, 0, 0, 1, 0);
        add(x, 1, 1, 0, 4, 0);
        add(x, 2, 3, 0, 0, 1);
        add(x, 3, 4, 0);
        add(x, 4, 6, 20, 3, 0, 1, 0);
        Check.is("two ticks", x.run(2), 1);
        return x;
    }

    private static OldStadium fullTrack() {
        OldStadium x = track(8, 60, 9);
        for (int lane = 0; lane < 8; lane++) {
            add(x, lane, lane, lane);
            for (int act = 0; act < 12; act++) {
                x.drive(lane, (lane + act) % 5, 0);
            }
        }
        return x;
    }

    private static OldStadium underWay() {
        OldStadium x = fullTrack();
        Check.is("all are on the track", x.run(50), 8);
        return x;
    }

    private static void at(String when, OldStadium x, int chariot, int... due) {
        for (int what = 0; what < due.length; what++) {
            Check.is(when + ": at(" + chariot + ", " + what + ")", x.at(chariot, what), due[what]);
        }
    }

    // ---- promise 16

    private static void promise16() {
        trackRefused();
        trackTaken();
        trackInPlaceOfAny();
    }

    /** "lanes 0 .. m - 1 (m 1 .. 8), each of c cells (4 .. 60), LAPS 1 .. 9"; "Refused: other numbers." */
    private static void trackRefused() {
        int[][] bad = {{0, 10, 2}, {-1, 10, 2}, {9, 10, 2}, {MIN, 10, 2}, {MAX, 10, 2},
            {4, 3, 2}, {4, 0, 2}, {4, -1, 2}, {4, 61, 2}, {4, MIN, 2}, {4, MAX, 2},
            {4, 10, 0}, {4, 10, -1}, {4, 10, 10}, {4, 10, MIN}, {4, 10, MAX}, {0, 3, 0}, {9, 61, 10}};
        for (int[] b : bad) {
            String what = "track(" + b[0] + ", " + b[1] + ", " + b[2] + ")";
            Refused.no(what, OldStadium::new, x -> x.track(b[0], b[1], b[2]));
            Refused.no(what + " when ready", BoundsChariotsTest::ready, x -> x.track(b[0], b[1], b[2]));
            Refused.no(what + " amid", BoundsChariotsTest::amid, x -> x.track(b[0], b[1], b[2]));
        }
    }

    /** Each number of lanes, of cells and of laps is taken, and is that of the track then. */
    private static void trackTaken() {
        for (int lanes = 1; lanes <= 8; lanes++) {
            OldStadium x = track(lanes, 4, 1);
            Check.is("the last lane of " + lanes, x.chariot(lanes - 1, 0), 0);
            Check.is("none behind it of " + lanes, x.chariot(lanes, 0), NONE);
        }
        for (int cells = 4; cells <= 60; cells++) {
            OldStadium x = track(1, cells, 9);
            add(x, 0, 0, 0, 1, 0);
            x.run(cells - 1);
            at("the last cell of " + cells, x, 0, ON_TRACK, 0, cells - 1, 0, 0, 0);
            x.run(1);
            at("behind the last cell of " + cells, x, 0, ON_TRACK, 0, 0, 1, 0, 0);
        }
        for (int laps = 1; laps <= 9; laps++) {
            OldStadium x = track(1, 4, laps);
            add(x, 0, 0, 0, 4, 0);
            Check.is("on the track in lap " + laps, x.run(laps - 1), laps > 1 ? 1 : 0);
            Check.is("home in lap " + laps, x.run(1), 0);
            at("all laps of " + laps, x, 0, HOME, 0, 0, laps, laps, 1);
        }
    }

    /** "A track; there are no CHARIOTS then": nor ticks, nor places taken. */
    private static void trackInPlaceOfAny() {
        String due = Probe.of(() -> track(3, 7, 2));
        List<Supplier<OldStadium>> states = List.of(BoundsChariotsTest::ready, BoundsChariotsTest::amid,
            BoundsChariotsTest::fullTrack, BoundsChariotsTest::underWay);
        for (Supplier<OldStadium> state : states) {
            Check.is("a new track", Probe.of(() -> {
                OldStadium x = state.get();
                Check.is("track anew", x.track(3, 7, 2), true);
                return x;
            }).equals(due), true);
            OldStadium x = state.get();
            x.track(3, 7, 2);
            for (int c = 0; c < 3; c++) {
                add(x, c, 2 - c, 0);
            }
            Check.is("no acts then", x.run(9), 3);
            for (int c = 0; c < 3; c++) {
                at("one without acts stands", x, c, ON_TRACK, 2 - c, 0, 0, 0, 0);
            }
        }
        OldStadium x = amid();
        x.track(2, 4, 1);
        for (int c = 0; c < 8; c++) {
            Check.is("no chariot " + c, x.at(c, 0), NONE);
        }
        add(x, 0, 0, 0, 4, 0);
        Check.is("the first tick", x.run(1), 0);
        at("home in tick 1, place 1", x, 0, HOME, 0, 0, 1, 1, 1);
    }

    // ---- promise 17

    private static void promise17() {
        chariotWithoutTrack();
        chariotOfNoLane();
        chariotDelays();
        chariotOfATakenLane();
        eightChariots();
        chariotBehindATick();
    }

    /** "Refused: no track". */
    private static void chariotWithoutTrack() {
        Refused.none("chariot without a track", OldStadium::new, x -> x.chariot(0, 0));
        Refused.none("chariot behind a refused track", () -> {
            OldStadium x = new OldStadium();
            x.track(9, 4, 1);
            return x;
        }, x -> x.chariot(0, 0));
    }

    /** "Refused: .. no such lane". */
    private static void chariotOfNoLane() {
        for (int lane : new int[] {-1, 4, 5, 8, MIN, MAX}) {
            Refused.none("chariot in lane " + lane, BoundsChariotsTest::ready, x -> x.chariot(lane, 0));
        }
        for (int lanes = 1; lanes <= 8; lanes++) {
            for (int lane = 0; lane < lanes; lane++) {
                Check.is("lane " + lane + " of " + lanes, track(lanes, 4, 1).chariot(lane, 0), 0);
            }
        }
    }

    /** "a DELAY (0 .. 20)"; "Refused: .. DELAY". */
    private static void chariotDelays() {
        for (int delay = 0; delay <= 20; delay++) {
            Check.is("delay " + delay, track(1, 4, 1).chariot(0, delay), 0);
        }
        for (int delay : new int[] {-1, 21, 22, MIN, MAX}) {
            Refused.none("delay " + delay, BoundsChariotsTest::ready, x -> x.chariot(0, delay));
        }
    }

    /** "no two have one lane"; "Refused: .. the lane is taken": by the first chariot and by the last one. */
    private static void chariotOfATakenLane() {
        Refused.none("lane of the first one", BoundsChariotsTest::ready, x -> x.chariot(1, 0));
        Refused.none("lane of the last one", BoundsChariotsTest::ready, x -> x.chariot(3, 20));
        OldStadium x = ready();
        Check.is("a free lane amid", x.chariot(2, 0), 2);
        Check.is("a free lane ahead", x.chariot(0, 0), 3);
        for (int lane = 0; lane < 4; lane++) {
            Check.is("all are taken, " + lane, x.chariot(lane, 0), NONE);
        }
    }

    /** "CHARIOTS 0 .. (at most 8)"; "Refused: .. 8". */
    private static void eightChariots() {
        OldStadium x = track(8, 4, 1);
        for (int i = 0; i < 8; i++) {
            Check.is("chariot " + i, x.chariot(7 - i, i), i);
        }
        Check.is("the last one is there", x.at(7, 1), 0);
        for (int lane = -1; lane <= 8; lane++) {
            int more = lane;
            Refused.none("a ninth one in lane " + lane, BoundsChariotsTest::fullTrack, y -> y.chariot(more, 0));
        }
    }

    /** "Refused: .. or a TICK was": run(0) is none. */
    private static void chariotBehindATick() {
        Refused.none("behind one tick", () -> {
            OldStadium x = ready();
            x.run(1);
            return x;
        }, x -> x.chariot(0, 0));
        Refused.none("behind 200 ticks", () -> {
            OldStadium x = ready();
            x.run(200);
            return x;
        }, x -> x.chariot(0, 0));
        Refused.none("behind a tick without chariots", () -> {
            OldStadium x = track(2, 4, 1);
            x.run(1);
            return x;
        }, x -> x.chariot(0, 0));
        OldStadium x = ready();
        x.run(0);
        x.run(-1);
        x.run(201);
        Check.is("behind no tick", x.chariot(0, 0), 2);
    }

    // ---- promise 18

    private static void promise18() {
        driveOfNone();
        driveNumbers();
        twelveActs();
        driveBehindATick();
    }

    /** "Refused: no such CHARIOT". */
    private static void driveOfNone() {
        Refused.none("drive in a new object", OldStadium::new, x -> x.drive(0, 1, 0));
        Refused.none("drive without chariots", () -> track(4, 10, 2), x -> x.drive(0, 1, 0));
        for (int c : new int[] {-1, 2, 3, 7, 8, MIN, MAX}) {
            Refused.none("drive of " + c, BoundsChariotsTest::ready, x -> x.drive(c, 1, 0));
        }
        Refused.none("drive of 8 of eight", BoundsChariotsTest::fullTrack, x -> x.drive(8, 1, 0));
        Check.is("drive of the last one", ready().drive(1, 1, 0), 2);
    }

    /** "forward 0 .. 4, side -1 .. 1"; "Refused: .. others". */
    private static void driveNumbers() {
        for (int forward = 0; forward <= 4; forward++) {
            for (int side = -1; side <= 1; side++) {
                Check.is("drive " + forward + " " + side, ready().drive(0, forward, side), 3);
            }
        }
        for (int forward : new int[] {-1, 5, 6, MIN, MAX}) {
            Refused.none("forward " + forward, BoundsChariotsTest::ready, x -> x.drive(0, forward, 0));
        }
        for (int side : new int[] {-2, 2, 3, MIN, MAX}) {
            Refused.none("side " + side, BoundsChariotsTest::ready, x -> x.drive(0, 1, side));
        }
    }

    /** "at most 12 ACTS"; "An ACT more: how many it has"; "Refused: .. 12". */
    private static void twelveActs() {
        OldStadium x = track(2, 60, 9);
        add(x, 0, 0, 0);
        add(x, 1, 1, 0);
        for (int i = 1; i <= 12; i++) {
            Check.is("act " + i + " of 0", x.drive(0, i % 5, 0), i);
        }
        Check.is("act 13 of 0", x.drive(0, 0, 0), NONE);
        Check.is("act 1 of 1", x.drive(1, 4, 0), 1);
        for (int c : new int[] {0, 7}) {
            Refused.none("act 13 of " + c, BoundsChariotsTest::fullTrack, y -> y.drive(c, 4, 0));
        }
    }

    /** "Refused: .. or a TICK was." */
    private static void driveBehindATick() {
        Refused.none("drive behind a tick", () -> {
            OldStadium x = ready();
            x.run(1);
            return x;
        }, x -> x.drive(0, 1, 0));
        Refused.none("drive of one in the gate", BoundsChariotsTest::amid, x -> x.drive(4, 1, 0));
        OldStadium x = ready();
        x.run(0);
        Check.is("run(0) is no tick", x.drive(0, 1, 0), 3);
        x.run(201);
        Check.is("nor is a refused run", x.drive(0, 1, 0), 4);
    }

    // ---- promise 19

    private static void promise19() {
        runRefused();
        runOfNoTicks();
        runOfManyTicks();
        howManyAreOnTheTrack();
    }

    /** "n TICKS (0 .. 200)"; "NONE: no track, another n." */
    private static void runRefused() {
        for (int n : new int[] {0, 1, 200, 201, -1}) {
            Refused.none("run(" + n + ") without a track", OldStadium::new, x -> x.run(n));
        }
        for (int n : new int[] {-1, -200, 201, 202, MIN, MAX}) {
            Refused.none("run(" + n + ") when ready", BoundsChariotsTest::ready, x -> x.run(n));
            Refused.none("run(" + n + ") amid", BoundsChariotsTest::amid, x -> x.run(n));
        }
    }

    private static void runOfNoTicks() {
        Check.is("run(0) when ready", ready().run(0), 0);
        Check.is("run(0) amid", amid().run(0), 1);
        Check.is("run(0) of an empty track", track(1, 4, 1).run(0), 0);
        Refused.changesNothing("run(0) when ready", BoundsChariotsTest::ready, x -> x.run(0));
        Refused.changesNothing("run(0) amid", BoundsChariotsTest::amid, x -> x.run(0));
    }

    /** 200 TICKS in one call are those of 200 calls; a second call goes on. */
    private static void runOfManyTicks() {
        OldStadium x = track(1, 60, 9);
        add(x, 0, 0, 0, 1, 0);
        Check.is("200 ticks", x.run(200), 1);
        at("behind 200 ticks", x, 0, ON_TRACK, 0, 20, 3, 0, 0);
        Check.is("199 more", x.run(199), 1);
        at("behind 399 ticks", x, 0, ON_TRACK, 0, 39, 6, 0, 0);
        Check.is("200 more", x.run(200), 0);
        at("home in tick 540", x, 0, HOME, 0, 0, 9, 540, 1);
        String due = Probe.of(() -> {
            OldStadium y = fullTrack();
            y.run(200);
            return y;
        });
        String single = Probe.of(() -> {
            OldStadium y = fullTrack();
            for (int i = 0; i < 200; i++) {
                y.run(1);
            }
            return y;
        });
        Check.is("200 ticks one by one", single.equals(due), true);
        Check.is("200 ticks of an empty track", track(1, 4, 1).run(200), 0);
    }

    /** "how many are on the track then": none in the gate, home or crashed; all eight. */
    private static void howManyAreOnTheTrack() {
        OldStadium x = fullTrack();
        for (int tick = 1; tick <= 8; tick++) {
            Check.is("on the track in tick " + tick, x.run(1), tick);
        }
        Check.is("one of five", amid().run(0), 1);
        Check.is("one came home, one is in the gate", amid().run(4), 0);
    }

    // ---- promise 20

    private static void promise20() {
        atOfNone();
        atOfEachState();
    }

    /** "NONE: none such, another what." */
    private static void atOfNone() {
        for (int what = 0; what < 6; what++) {
            Check.is("at in a new object", new OldStadium().at(0, what), NONE);
            Check.is("at of an empty track", track(8, 4, 1).at(0, what), NONE);
            for (int c : new int[] {-1, 5, 6, 7, 8, MIN, MAX}) {
                Check.is("at(" + c + ", " + what + ")", amid().at(c, what), NONE);
            }
            Check.is("at(8, " + what + ") of eight", fullTrack().at(8, what), NONE);
            Check.is("at(7, " + what + ") of eight", fullTrack().at(7, what) != NONE, true);
        }
        for (int what : new int[] {-1, 6, 7, MIN, MAX}) {
            for (int c = 0; c < 5; c++) {
                Check.is("at(" + c + ", " + what + ")", amid().at(c, what), NONE);
            }
        }
        for (int what = -1; what <= 6; what++) {
            int asked = what;
            Refused.changesNothing("at(0, " + what + ")", BoundsChariotsTest::amid, x -> x.at(0, asked));
            Refused.changesNothing("at(5, " + what + ")", BoundsChariotsTest::amid, x -> x.at(5, asked));
        }
    }

    /** "0 in the GATE, 1 on the track, 2 HOME, 3 CRASHED"; "(0)" as TICK and as place of the others. */
    private static void atOfEachState() {
        OldStadium x = amid();
        at("on the track", x, 0, ON_TRACK, 0, 2, 0, 0, 0);
        at("home", x, 1, HOME, 1, 0, 1, 1, 1);
        at("crashed into", x, 2, CRASHED, 4, 0, 0, 1, 0);
        at("crashed", x, 3, CRASHED, 4, 0, 0, 1, 0);
        at("in the gate", x, 4, IN_GATE, 6, 0, 0, 0, 0);
        x.run(2);
        at("home as the second", x, 0, HOME, 0, 0, 1, 4, 2);
        x.run(200);
        at("home as the third", x, 4, HOME, 6, 0, 1, 22, 3);
        at("home stays", x, 1, HOME, 1, 0, 1, 1, 1);
        at("crashed stays", x, 2, CRASHED, 4, 0, 0, 1, 0);
    }

    // ---- gates and acts

    /** "first those come on the track whose DELAY is less than the TICK by just one". */
    private static void gates() {
        for (int delay = 0; delay <= 20; delay++) {
            OldStadium x = track(1, 60, 1);
            add(x, 0, 0, delay, 1, 0);
            Check.is("ticks of delay " + delay, x.run(delay), 0);
            at("delay " + delay, x, 0, IN_GATE, 0, 0, 0, 0, 0);
            Check.is("the tick behind delay " + delay, x.run(1), 1);
            at("behind delay " + delay, x, 0, ON_TRACK, 0, 1, 0, 0, 0);
        }
    }

    private static void actsInTurn() {
        withoutActs();
        actsGoRound();
        firstActAtTheGate();
        forwards();
    }

    /** "Without ACTS it stands": on the track, at cell 0, for ever. */
    private static void withoutActs() {
        OldStadium x = track(3, 4, 1);
        add(x, 0, 1, 0);
        Check.is("it comes", x.run(1), 1);
        Check.is("it stands", x.run(200), 1);
        at("without acts", x, 0, ON_TRACK, 1, 0, 0, 0, 0);
    }

    /** "its first in the TICK in which it comes, and so on round": of one ACT, of two, .. of twelve. */
    private static void actsGoRound() {
        for (int acts = 1; acts <= 12; acts++) {
            OldStadium x = track(1, 60, 9);
            add(x, 0, 0, 0);
            for (int i = 0; i < acts; i++) {
                x.drive(0, i == 0 ? 4 : i % 3, 0);
            }
            int way = 0;
            for (int tick = 0; tick < 40; tick++) {
                x.run(1);
                way += tick % acts == 0 ? 4 : tick % acts % 3;
                Check.is("way of " + acts + " acts in tick " + tick, x.at(0, 3) * 60 + x.at(0, 2), way);
            }
        }
    }

    /** A DELAY does not take ACTS away, whatever their number. */
    private static void firstActAtTheGate() {
        for (int delay : new int[] {0, 1, 2, 3, 11, 12, 19, 20}) {
            for (int acts : new int[] {1, 2, 3, 5, 12}) {
                OldStadium x = track(1, 60, 9);
                add(x, 0, 0, delay, 4, 0);
                for (int i = 1; i < acts; i++) {
                    x.drive(0, 1, 0);
                }
                x.run(delay + 1);
                Check.is("first act, delay " + delay + ", of " + acts, x.at(0, 2), 4);
                x.run(acts);
                Check.is("first act again, delay " + delay + ", of " + acts, x.at(0, 2), 4 + acts - 1 + 4);
            }
        }
    }

    /** "forward 0 .. 4": so many cells in a TICK. */
    private static void forwards() {
        for (int forward = 0; forward <= 4; forward++) {
            OldStadium x = track(1, 60, 9);
            add(x, 0, 0, 0, forward, 0);
            x.run(1);
            Check.is("forward " + forward, x.at(0, 2), forward);
            x.run(1);
            Check.is("forward " + forward + " twice", x.at(0, 2), 2 * forward);
        }
    }

    // ---- cells, laps and home

    /** "(behind the last one 0, one LAP more)": at the last STEP of a TICK, and amid one. */
    private static void cellsAndLaps() {
        OldStadium x = track(1, 4, 9);
        add(x, 0, 0, 0, 3, 0);
        int[] cells = {3, 2, 1, 0, 3, 2, 1, 0};
        int[] laps = {0, 1, 2, 3, 3, 4, 5, 6};
        for (int tick = 0; tick < cells.length; tick++) {
            x.run(1);
            at("three of four, tick " + tick, x, 0, ON_TRACK, 0, cells[tick], laps[tick], 0, 0);
        }
        x = track(1, 60, 2);
        add(x, 0, 0, 0, 4, 0);
        x.run(14);
        at("56 of 60", x, 0, ON_TRACK, 0, 56, 0, 0, 0);
        x.run(1);
        at("60 of 60", x, 0, ON_TRACK, 0, 0, 1, 0, 0);
        x.run(14);
        at("116 of 120", x, 0, ON_TRACK, 0, 56, 1, 0, 0);
        x.run(1);
        at("120 of 120", x, 0, HOME, 0, 0, 2, 30, 1);
    }

    private static void home() {
        homeAmidATick();
        placesOfOneStep();
        placesOfSteps();
        placesOfEight();
        homeBesideOthers();
    }

    /** "those with LAPS enough are HOME (off the track": no STEP and no side of the TICK moves it more. */
    private static void homeAmidATick() {
        OldStadium x = track(3, 5, 1);
        add(x, 0, 1, 0, 4, 0, 3, 1);
        x.run(1);
        at("four of five", x, 0, ON_TRACK, 1, 4, 0, 0, 0);
        Check.is("home in step 1", x.run(1), 0);
        at("it goes no farther, nor to a side", x, 0, HOME, 1, 0, 1, 2, 1);
    }

    /** "of one STEP the less lane is ahead": by the lane in which it comes home, not by its number or first lane. */
    private static void placesOfOneStep() {
        OldStadium x = track(2, 4, 1);
        add(x, 0, 1, 0, 4, 0);
        add(x, 1, 0, 0, 4, 0);
        x.run(1);
        at("lane 1", x, 0, HOME, 1, 0, 1, 1, 2);
        at("lane 0", x, 1, HOME, 0, 0, 1, 1, 1);
        x = track(2, 6, 1);
        add(x, 0, 0, 0, 3, 1);
        add(x, 1, 1, 0, 3, -1);
        Check.is("they change lanes", x.run(1), 2);
        x.run(1);
        at("now of lane 1", x, 0, HOME, 1, 0, 1, 2, 2);
        at("now of lane 0", x, 1, HOME, 0, 0, 1, 2, 1);
    }

    /** An earlier STEP is ahead of a less lane; an earlier TICK is ahead of an earlier STEP. */
    private static void placesOfSteps() {
        OldStadium x = track(3, 6, 1);
        add(x, 0, 0, 0, 3, 0);
        add(x, 1, 1, 0, 4, 0);
        add(x, 2, 2, 0, 4, 0, 1, 0);
        x.run(2);
        at("in step 3 of tick 2", x, 0, HOME, 0, 0, 1, 2, 2);
        at("in step 2 of tick 2", x, 1, HOME, 1, 0, 1, 2, 1);
        x.run(1);
        at("in step 1 of tick 3", x, 2, HOME, 2, 0, 1, 3, 3);
    }

    private static void placesOfEight() {
        OldStadium x = track(8, 4, 1);
        for (int c = 0; c < 8; c++) {
            add(x, c, 7 - c, 0, 4, 0);
        }
        Check.is("all come home", x.run(1), 0);
        for (int c = 0; c < 8; c++) {
            at("eight in one step", x, c, HOME, 7 - c, 0, 1, 1, 8 - c);
        }
    }

    /** "then those with LAPS enough are HOME ..; then those in one cell with another one CRASH": HOME is ahead of it. */
    private static void homeBesideOthers() {
        OldStadium x = track(2, 4, 1);
        add(x, 0, 0, 0, 3, 1, 1, 0);
        add(x, 1, 1, 1);
        Check.is("one waits in the gate", x.run(1), 1);
        Check.is("one comes home into the cell of another", x.run(1), 1);
        at("home", x, 0, HOME, 1, 0, 1, 2, 1);
        at("no crash", x, 1, ON_TRACK, 1, 0, 0, 0, 0);
        x = track(2, 4, 2);
        add(x, 0, 0, 0, 3, 1, 1, 0);
        add(x, 1, 1, 1);
        x.run(1);
        Check.is("with laps to go it crashes", x.run(1), 0);
        at("a lap, and crashed", x, 0, CRASHED, 1, 0, 1, 2, 0);
        at("crashed into at cell 0", x, 1, CRASHED, 1, 0, 0, 2, 0);
    }

    // ---- crashes

    private static void crashes() {
        crashOfEachStep();
        noCrashOfOneWay();
        crashOfThree();
        crashByLaps();
        crashAtTheGate();
        gateIsNotTheTrack();
        offTheTrackIsInNobodysWay();
        crashedInAStepStays();
    }

    /** "Then FOUR STEPS (1 .. 4): in STEP s all on the track with forward of s or more go one cell on": caught in each. */
    private static void crashOfEachStep() {
        for (int ahead = 1; ahead <= 4; ahead++) {
            OldStadium x = track(2, 20, 1);
            add(x, 0, 0, 0, ahead, 1, 0, 0);
            add(x, 1, 1, 1, 4, 0);
            Check.is("ahead by " + ahead, x.run(1), 1);
            Check.is("caught in step " + ahead, x.run(1), 0);
            at("who stood", x, 0, CRASHED, 1, ahead, 0, 2, 0);
            at("who came", x, 1, CRASHED, 1, ahead, 0, 2, 0);
        }
        OldStadium x = track(2, 20, 1);
        add(x, 0, 0, 0, 4, 1, 1, 0);
        add(x, 1, 1, 1, 4, 0);
        x.run(1);
        Check.is("not caught", x.run(1), 2);
        at("one cell ahead", x, 0, ON_TRACK, 1, 5, 0, 0, 0);
        at("one cell behind", x, 1, ON_TRACK, 1, 4, 0, 0, 0);
        x = track(2, 20, 1);
        add(x, 0, 0, 0, 1, 1, 3, 0);
        add(x, 1, 1, 1, 4, 0);
        x.run(1);
        Check.is("caught in step 4 by one that goes three", x.run(1), 0);
        at("it went three", x, 0, CRASHED, 1, 4, 0, 2, 0);
    }

    /** In a STEP all go at once: one just ahead that goes too is not hit, whatever their numbers. */
    private static void noCrashOfOneWay() {
        for (int first = 0; first < 2; first++) {
            OldStadium x = track(2, 20, 1);
            add(x, 0, first, first == 0 ? 0 : 1, first == 0 ? new int[] {1, 1, 4, 0} : new int[] {4, 0});
            add(x, 1, 1 - first, first == 0 ? 1 : 0, first == 0 ? new int[] {4, 0} : new int[] {1, 1, 4, 0});
            Check.is("one is ahead", x.run(1), 1);
            Check.is("both go four", x.run(1), 2);
            Check.is("the one ahead", x.at(first == 0 ? 0 : 1, 2), 5);
            Check.is("the one behind", x.at(first == 0 ? 1 : 0, 2), 4);
        }
    }

    /** "those in one cell with another one CRASH": all of three, not two of them. */
    private static void crashOfThree() {
        OldStadium x = track(3, 20, 1);
        add(x, 0, 0, 0, 2, 1);
        add(x, 1, 1, 0, 2, 0);
        add(x, 2, 2, 0, 2, -1);
        Check.is("three in one cell", x.run(1), 0);
        for (int c = 0; c < 3; c++) {
            at("one of three", x, c, CRASHED, 1, 2, 0, 1, 0);
        }
        x = track(4, 20, 1);
        add(x, 0, 0, 0, 2, 1);
        add(x, 1, 1, 0, 2, 0);
        add(x, 2, 2, 0, 3, 1);
        add(x, 3, 3, 0, 3, 0);
        Check.is("two pairs", x.run(1), 0);
        at("of the first pair", x, 0, CRASHED, 1, 2, 0, 1, 0);
        at("of the second pair", x, 3, CRASHED, 3, 3, 0, 1, 0);
    }

    /** One cell of one lane is enough, whatever the LAPS. */
    private static void crashByLaps() {
        OldStadium x = track(2, 4, 9);
        add(x, 0, 0, 0, 4, 0, 4, 1);
        add(x, 1, 1, 2);
        Check.is("two laps", x.run(2), 1);
        Check.is("crash with one of no lap", x.run(1), 0);
        at("of two laps", x, 0, CRASHED, 1, 0, 2, 3, 0);
        at("of none", x, 1, CRASHED, 1, 0, 0, 3, 0);
    }

    /** "(Those that come on the track into a cell where one is, CRASH with it at once.)" */
    private static void crashAtTheGate() {
        OldStadium x = track(2, 10, 1);
        add(x, 0, 0, 0, 0, 1, 4, 0);
        add(x, 1, 1, 1, 4, 0);
        Check.is("it waits at cell 0 of another's lane", x.run(1), 1);
        Check.is("crash as the other one comes", x.run(1), 0);
        at("ahead of its four steps", x, 0, CRASHED, 1, 0, 0, 2, 0);
        at("ahead of the other's", x, 1, CRASHED, 1, 0, 0, 2, 0);
    }

    /** "in the GATE (not on the track)": who is at cell 0 of another's lane hits nobody in the GATE there. */
    private static void gateIsNotTheTrack() {
        OldStadium x = track(2, 10, 1);
        add(x, 0, 0, 0, 0, 1, 0, 0, 1, 0);
        add(x, 1, 1, 3, 0, 0);
        Check.is("into the gate's cell", x.run(1), 1);
        Check.is("it stands there", x.run(1), 1);
        Check.is("it goes on", x.run(1), 1);
        at("one cell on", x, 0, ON_TRACK, 1, 1, 0, 0, 0);
        Check.is("the other one comes behind it", x.run(1), 2);
        at("no crash", x, 1, ON_TRACK, 1, 0, 0, 0, 0);
    }

    /** HOME and CRASHED are "off the track". */
    private static void offTheTrackIsInNobodysWay() {
        OldStadium x = track(4, 4, 1);
        add(x, 0, 0, 0, 4, 0);
        add(x, 1, 1, 1, 0, -1, 1, 0);
        add(x, 2, 2, 0, 1, 1);
        add(x, 3, 3, 0, 1, 0);
        Check.is("one home, two crashed", x.run(1), 0);
        at("home", x, 0, HOME, 0, 0, 1, 1, 1);
        Check.is("into the cell of one that is home", x.run(1), 1);
        at("no crash with it", x, 1, ON_TRACK, 0, 0, 0, 0, 0);
        x = track(4, 9, 1);
        add(x, 0, 1, 0, 1, 1);
        add(x, 1, 2, 0, 1, 0);
        add(x, 2, 3, 1, 1, -1, 1, 0);
        Check.is("two crashed", x.run(1), 0);
        Check.is("into their cell", x.run(1), 1);
        at("no crash with them", x, 2, ON_TRACK, 2, 1, 0, 0, 0);
        Check.is("and through it", x.run(1), 1);
        at("it goes on", x, 2, ON_TRACK, 2, 2, 0, 0, 0);
    }

    /** One that crashed in STEP 1 stops there; a third one that goes two passes the place in STEP 2. */
    private static void crashedInAStepStays() {
        OldStadium x = track(3, 20, 1);
        add(x, 0, 0, 0, 2, 1, 0, 0);
        add(x, 1, 1, 0, 1, 0, 4, 0);
        Check.is("1 is just behind 0", x.run(1), 2);
        Check.is("hit in step 1", x.run(1), 0);
        at("stood", x, 0, CRASHED, 1, 2, 0, 2, 0);
        at("goes no farther than the first step", x, 1, CRASHED, 1, 2, 0, 2, 0);
        x = track(3, 20, 1);
        add(x, 0, 0, 0, 2, 1, 0, 0);
        add(x, 1, 1, 0, 1, 0, 4, 0);
        add(x, 2, 2, 0, 0, -1, 4, 0);
        Check.is("2 is two behind 0", x.run(1), 3);
        Check.is("the place is free in step 2", x.run(1), 1);
        at("through the place of the crash", x, 2, ON_TRACK, 1, 4, 0, 0, 0);
    }

    // ---- sides

    private static void sides() {
        noLaneThere();
        sideAtOnce();
        sideBehindSteps();
        crashBySide();
    }

    /** "go to the next lane, if there is one". */
    private static void noLaneThere() {
        for (int lanes = 1; lanes <= 8; lanes++) {
            for (int lane = 0; lane < lanes; lane++) {
                for (int side = -1; side <= 1; side++) {
                    OldStadium x = track(lanes, 10, 1);
                    add(x, 0, lane, 0, 1, side);
                    Check.is("it is on the track", x.run(1), 1);
                    int due = Math.max(0, Math.min(lanes - 1, lane + side));
                    at("side " + side + " of lane " + lane + " of " + lanes, x, 0, ON_TRACK, due, 1, 0, 0, 0);
                }
            }
        }
    }

    /** "Then, all at once": two may change places, eight may go one on. */
    private static void sideAtOnce() {
        OldStadium x = track(2, 10, 1);
        add(x, 0, 0, 0, 1, 1);
        add(x, 1, 1, 0, 1, -1);
        Check.is("they change places", x.run(1), 2);
        at("up", x, 0, ON_TRACK, 1, 1, 0, 0, 0);
        at("down", x, 1, ON_TRACK, 0, 1, 0, 0, 0);
        for (int side = -1; side <= 1; side += 2) {
            x = track(8, 10, 1);
            for (int c = 0; c < 7; c++) {
                add(x, c, side > 0 ? c : c + 1, 0, 1, side);
            }
            Check.is("seven go one on", x.run(1), 7);
            for (int c = 0; c < 7; c++) {
                at("side " + side, x, c, ON_TRACK, side > 0 ? c + 1 : c, 1, 0, 0, 0);
            }
        }
    }

    /** Sides come behind the fourth STEP: who goes four passes beside one that stands. */
    private static void sideBehindSteps() {
        OldStadium x = track(2, 20, 1);
        add(x, 0, 0, 0, 2, 1, 0, -1);
        add(x, 1, 1, 1, 4, 0);
        Check.is("one ahead", x.run(1), 1);
        Check.is("its side is too late", x.run(1), 0);
        at("caught ahead of its side", x, 0, CRASHED, 1, 2, 0, 2, 0);
        x = track(2, 20, 1);
        add(x, 0, 0, 0, 2, 0);
        add(x, 1, 1, 0, 4, -1);
        Check.is("past it, then into its lane", x.run(1), 2);
        at("two cells ahead", x, 1, ON_TRACK, 0, 4, 0, 0, 0);
    }

    /** "those in one cell with another one then CRASH": with one that keeps its lane, or has no lane to go to. */
    private static void crashBySide() {
        OldStadium x = track(2, 20, 1);
        add(x, 0, 0, 0, 3, 1);
        add(x, 1, 1, 0, 3, 1);
        Check.is("no lane to go to", x.run(1), 0);
        at("came to it", x, 0, CRASHED, 1, 3, 0, 1, 0);
        at("stayed", x, 1, CRASHED, 1, 3, 0, 1, 0);
        x = track(3, 20, 1);
        add(x, 0, 0, 0, 3, 1);
        add(x, 1, 2, 0, 3, -1);
        Check.is("from both sides", x.run(1), 0);
        at("from below", x, 0, CRASHED, 1, 3, 0, 1, 0);
        at("from above", x, 1, CRASHED, 1, 3, 0, 1, 0);
        x = track(2, 20, 1);
        add(x, 0, 0, 0, 3, 1);
        add(x, 1, 1, 0, 2, 0);
        Check.is("one cell apart", x.run(1), 2);
        x = track(3, 20, 1);
        add(x, 0, 0, 0, 3, 0);
        add(x, 1, 1, 0, 3, 0);
        Check.is("one lane apart", x.run(1), 2);
    }

    // ---- "An object is used for at most 512 calls"

    /** Of 509 calls run(200) the ticks are 101800: no number is too small for them. */
    private static void lastCall() {
        OldStadium x = track(1, 60, 9);
        x.chariot(0, 20);
        for (int i = 0; i < 508; i++) {
            x.run(200);
        }
        Check.is("call 511", x.run(200), 1);
        Check.is("call 512", x.at(0, 0), ON_TRACK);
        x = track(1, 60, 9);
        x.chariot(0, 0);
        x.drive(0, 0, 0);
        for (int i = 0; i < 507; i++) {
            x.run(1);
        }
        Check.is("call 511 of short ones", x.run(1), 1);
        Check.is("call 512 of short ones", x.run(0), 1);
    }
}
