import java.util.Random;

/**
 * All promises: no call throws, whatever its numbers, in any state; a refused call changes nothing; two objects have
 * nothing in common; the same calls give the same answers.
 */
public final class RefusalsTest {
    private static final int[] ODD = {Integer.MIN_VALUE, Integer.MIN_VALUE + 1, -1000, -3, -2, -1, 0, 1, 2, 3, 4, 5, 6,
        7, 8, 9, 10, 12, 13, 20, 21, 24, 25, 26, 27, 40, 41, 60, 61, 200, 201, 210, 3210, 65536, 0x1a1a1a1a, 0x01010101,
        0x1b000000, Integer.MAX_VALUE - 1, Integer.MAX_VALUE};
    private static final int CALLS = 28;
    /** Called less often than others, as it takes all chariots away. */
    private static final int TRACK = 14;

    private static Random lots;
    private static boolean tame;

    public static void main(String[] args) {
        for (int run = 0; run < 300; run++) {
            OldStadium x = new OldStadium();
            OldStadium twin = new OldStadium();
            OldStadium quiet = new OldStadium();
            String untouched = stateOf(quiet);
            lots = new Random(run);
            for (int call = 0; call < 300; call++) {
                tame = lots.nextInt(4) > 0;
                step(x, twin, "run " + run + " call " + call);
            }
            Check.is("another object", stateOf(quiet), untouched);
        }
        Check.end();
    }

    private static void step(OldStadium x, OldStadium twin, String at) {
        int which = lots.nextInt(CALLS);
        if (which == TRACK && lots.nextInt(4) > 0) {
            return;
        }
        int[] n = new int[6];
        for (int i = 0; i < n.length; i++) {
            n[i] = tame ? lots.nextInt(i == 0 ? 4 : 7) - (lots.nextInt(8) == 0 ? 1 : 0) : ODD[lots.nextInt(ODD.length)];
        }
        boolean are = lots.nextInt(3) > 0;
        String before = stateOf(x);
        try {
            int got = call(x, which, n, are);
            Check.is(at + " of a twin", call(twin, which, n, are), got);
            if (isRefusal(which, got)) {
                Check.is(at + " refused, call " + which, stateOf(x), before);
            }
        } catch (RuntimeException | StackOverflowError e) {
            Check.is(at + " threw " + e + " in call " + which, true, false);
        }
    }

    private static boolean isRefusal(int which, int got) {
        boolean answersBoolean = which == 6 || which == 7 || which == 10 || which == TRACK || which == 20;
        return which > 22 || (answersBoolean ? got == 0 : got < 0);
    }

    private static int call(OldStadium x, int which, int[] n, boolean are) {
        switch (which) {
            case 0: return x.runner(n[1]);
            case 1: return x.judge(n[1]);
            case 2: return x.contest(n[0], n[1], n[2]);
            case 3: return x.heat(n[1]);
            case 4: return x.lane(n[0], n[1]);
            case 5: return x.count(n[1]);
            case 6: return x.winner(n[0], tame ? x.lane(n[0], n[1]) : n[1]) ? 1 : 0;
            case 7: return x.vote(n[0], n[1], tame ? x.lane(n[1], n[2]) : n[2]) ? 1 : 0;
            case 8: return x.decide(n[0]);
            case 9: return x.next();
            case 10: return x.five(n[0]) ? 1 : 0;
            case 11: return x.event(tame ? new int[] {210, 120, 12, 10, 1, 0, 3210}[Math.floorMod(n[1], 7)] : n[0]);
            case 12: return x.athlete(n[0], n[1]);
            case 13: return x.won();
            case TRACK: return x.track(n[0], n[1], n[2]) ? 1 : 0;
            case 15: return x.chariot(n[0], n[1]);
            case 16: return x.drive(n[0], n[1], tame ? n[2] % 2 : n[2]);
            case 17: return x.run(n[1]);
            case 18: return x.at(n[0], n[1]);
            case 19: return x.stone(n[0], n[1], n[2], n[3], n[4], n[5]);
            case 20: return x.join(n[0], n[1], are) ? 1 : 0;
            case 21: return x.span(n[1]);
            case 22: return x.lose(n[1]);
            case 23: return x.agree(n[0], n[1]);
            case 24: return x.rolls();
            case 25: return x.year(n[0], n[1]);
            case 26: return x.wrong();
            default: return x.letter(n[0], n[1]);
        }
    }

    /** All that can be asked without changing anything. */
    private static String stateOf(OldStadium x) {
        StringBuilder s = new StringBuilder();
        for (int i = -1; i < 9; i++) {
            s.append(x.count(i)).append(' ');
        }
        for (int i = -1; i < 25; i++) {
            s.append(x.heat(i)).append(x.lane(i, 0)).append(x.lane(i, 1)).append(x.lane(i, 2)).append(' ');
        }
        for (int i = -1; i < 9; i++) {
            for (int what = -1; what < 9; what++) {
                s.append(x.athlete(i, what)).append(x.at(i, what)).append(x.letter(i, what)).append(x.agree(i, what));
                s.append(x.year(i, what)).append(' ');
            }
        }
        return s.append(x.won()).append(' ').append(x.run(0)).append(' ').append(x.rolls()).append(' ')
                .append(x.wrong()).toString();
    }
}
