import java.util.ArrayList;
import java.util.List;
import java.util.Random;

/** Promises 12 to 15: five in one, "can win" against a trial of all orders. */
public final class FiveTest {
    private static final int NONE = OldStadium.NONE;

    public static void main(String[] args) {
        five();
        event();
        eventRefused();
        athlete();
        wonByThree();
        wonBehindFive();
        canWin();
        allRunsOfTwo();
        someRuns(3, 60);
        someRuns(4, 40);
        Check.end();
    }

    private static OldStadium of(int n) {
        OldStadium x = new OldStadium();
        Check.is("five(" + n + ")", x.five(n), true);
        return x;
    }

    private static void five() {
        OldStadium x = new OldStadium();
        for (int n : new int[] {0, -1, 5, Integer.MIN_VALUE, Integer.MAX_VALUE}) {
            Check.is("five(" + n + ")", x.five(n), false);
            Check.is("no five", x.event(0), NONE);
            Check.is("no athlete", x.athlete(0, 0), NONE);
        }
        for (int n = 1; n <= 4; n++) {
            x = of(n);
            Check.is("last athlete", x.athlete(n - 1, 0), 0);
            Check.is("none behind", x.athlete(n, 0), NONE);
        }
        x = of(3);
        x.event(210);
        Check.is("five(5) refused", x.five(5), false);
        Check.is("changes nothing", x.athlete(0, 0), 1);
        x.event(210);
        x.event(210);
        Check.is("won", x.won(), 0);
        x.five(2);
        Check.is("a new five has no winner", x.won(), NONE);
        Check.is("nor wins", x.athlete(0, 0), 0);
        Check.is("nor a sum", x.athlete(0, 1), 0);
        Check.is("its first event", x.event(1), 1);
    }

    private static void event() {
        OldStadium x = of(4);
        Check.is("first", x.event(3210), 1);
        Check.is("second", x.event(123), 2);
        int[] wins = {1, 0, 0, 1};
        int[] sums = {1 + 4, 2 + 3, 3 + 2, 4 + 1};
        for (int a = 0; a < 4; a++) {
            Check.is("wins of " + a, x.athlete(a, 0), wins[a]);
            Check.is("sum of " + a, x.athlete(a, 1), sums[a]);
        }
        OldStadium one = of(1);
        Check.is("one alone", one.event(0), 1);
        Check.is("its place", one.athlete(0, 1), 1);
    }

    private static void eventRefused() {
        int[][] bad = {{3, 110}, {3, 1210}, {3, -1}, {3, 310}, {3, 0}, {3, 1}, {3, 10}, {3, -210}, {1, 1}, {1, 10},
            {2, 0}, {2, 2}, {2, 11}, {2, 110}, {4, 10123}, {4, 210 + 4000}, {4, Integer.MAX_VALUE},
            {4, Integer.MIN_VALUE}, {3, 2021}};
        for (int[] b : bad) {
            OldStadium x = of(b[0]);
            Check.is("event(" + b[1] + ") of " + b[0], x.event(b[1]), NONE);
            Check.is("it changes nothing", x.athlete(0, 1), 0);
        }
        OldStadium x = of(2);
        x.event(10);
        x.event(10);
        x.event(10);
        Check.is("event behind the end", x.event(10), NONE);
        Check.is("changes nothing", x.athlete(0, 0), 3);
        Check.is("event without a five", new OldStadium().event(0), NONE);
    }

    private static void athlete() {
        OldStadium x = of(2);
        Check.is("athlete -1", x.athlete(-1, 0), NONE);
        Check.is("athlete 2", x.athlete(2, 0), NONE);
        Check.is("what -1", x.athlete(0, -1), NONE);
        Check.is("what 3", x.athlete(0, 3), NONE);
        Check.is("can win at first", x.athlete(1, 2), 1);
    }

    private static void wonByThree() {
        OldStadium x = of(3);
        x.event(102);
        x.event(102);
        Check.is("two wins", x.won(), NONE);
        Check.is("third", x.event(12), 3);
        Check.is("three wins", x.won(), 2);
        Check.is("winner can win", x.athlete(2, 2), 1);
        Check.is("another one can't", x.athlete(0, 2), 0);
    }

    private static OldStadium told(int n, int... orders) {
        OldStadium x = of(n);
        for (int i = 0; i < orders.length; i++) {
            Check.is("event " + i, x.event(orders[i]), i + 1);
        }
        return x;
    }

    private static void wonBehindFive() {
        OldStadium x = told(4, 3210, 3210, 321, 321, 3012);
        Check.is("0 has 2 wins and 13, 1 has 2 wins and 8, 2 one", x.won(), 1);
        Check.is("the one behind can't", x.athlete(0, 2), 0);
        x = told(3, 210, 120, 201, 201, 12);
        Check.is("equal wins and sums: the less number", x.won(), 0);
        Check.is("sum of 0", x.athlete(0, 1), x.athlete(1, 1));
        x = told(3, 21, 102, 210, 12, 120);
        Check.is("0 has 2 wins and 10, 2 has 2 wins and 9", x.won(), 2);
        x = told(4, 123, 3210, 3201, 3012, 123);
        Check.is("one with two wins ahead of those with one", x.won(), 3);
    }

    private static void canWin() {
        OldStadium x = told(4, 3210, 3210, 3201);
        Check.is("1 can by two more wins", x.athlete(1, 2), 1);
        Check.is("2 can if 0 is the last one twice", x.athlete(2, 2), 1);
        Check.is("3 can't: 14 against 12", x.athlete(3, 2), 0);
        x = told(4, 3210, 3210, 3201, 3201);
        Check.is("2 is out", x.athlete(2, 2), 0);
        Check.is("0 can", x.athlete(0, 2), 1);
        Check.is("1 can", x.athlete(1, 2), 1);
    }

    /** Every order of events of two athletes, each step of it. */
    private static void allRunsOfTwo() {
        int[] orders = {10, 1};
        for (int bits = 0; bits < 32; bits++) {
            OldStadium x = of(2);
            List<Integer> told = new ArrayList<>();
            for (int i = 0; i < 5 && x.won() == NONE; i++) {
                told.add(orders[bits >> i & 1]);
                x.event(orders[bits >> i & 1]);
                compare(x, 2, told);
            }
        }
    }

    private static void someRuns(int n, int many) {
        List<Integer> orders = ordersOf(n);
        Random lots = new Random(n);
        for (int run = 0; run < many; run++) {
            OldStadium x = of(n);
            List<Integer> told = new ArrayList<>();
            int few = 2 + lots.nextInt(orders.size() - 1);
            for (int i = 0; i < 5 && x.won() == NONE; i++) {
                int order = orders.get(lots.nextInt(few));
                told.add(order);
                Check.is("event of run " + run, x.event(order), told.size());
                if (n < 4 || told.size() > 1) {
                    compare(x, n, told);
                }
            }
            Check.is("someone has won", x.won() != NONE, true);
        }
    }

    private static void compare(OldStadium x, int n, List<Integer> told) {
        int[] orders = new int[told.size()];
        for (int i = 0; i < orders.length; i++) {
            orders[i] = told.get(i);
        }
        Check.is("won of " + told, x.won(), winnerOf(orders, orders.length, n));
        int can = canBits(orders, n);
        for (int a = 0; a < n; a++) {
            Check.is("can " + a + " of " + told, x.athlete(a, 2), can >> a & 1);
        }
    }

    private static int canBits(int[] told, int n) {
        int[] all = new int[5];
        System.arraycopy(told, 0, all, 0, told.length);
        return tryAll(all, told.length, n, ordersOf(n));
    }

    private static int tryAll(int[] all, int many, int n, List<Integer> orders) {
        int winner = winnerOf(all, many, n);
        if (winner >= 0) {
            return 1 << winner;
        }
        int bits = 0;
        for (int order : orders) {
            all[many] = order;
            bits |= tryAll(all, many + 1, n, orders);
        }
        return bits;
    }

    /** Who has won by so many of the orders, -1 if none has. */
    private static int winnerOf(int[] all, int many, int n) {
        int[] points = new int[n];
        for (int a = 0; a < n; a++) {
            points[a] = 10_000 - a;
        }
        for (int i = 0; i < many; i++) {
            int rest = all[i];
            for (int place = 1; place <= n; place++, rest /= 10) {
                points[rest % 10] += (place == 1 ? 1_000_000 : 0) - place * 10;
            }
        }
        int best = 0;
        for (int a = 1; a < n; a++) {
            best = points[a] > points[best] ? a : best;
        }
        return many == 5 || points[best] >= 3_000_000 ? best : -1;
    }

    private static List<Integer> ordersOf(int n) {
        List<Integer> found = new ArrayList<>();
        for (int order = 0; order < 10_000; order++) {
            int seen = 0;
            int rest = order;
            for (int i = 0; i < n; i++, rest /= 10) {
                seen |= 1 << rest % 10;
            }
            if (rest == 0 && seen == (1 << n) - 1) {
                found.add(order);
            }
        }
        return found;
    }
}
