import java.util.ArrayList;
import java.util.Arrays;
import java.util.HashMap;
import java.util.List;
import java.util.Map;
import java.util.function.Supplier;

/** Promises 12 to 15 and term 2: each sentence that names a boundary, by itself. */
public final class BoundsFiveTest {
    private static final int NONE = OldStadium.NONE;
    private static final int MIN = Integer.MIN_VALUE;
    private static final int MAX = Integer.MAX_VALUE;

    public static void main(String[] args) {
        promise12();
        promise13();
        promise14();
        promise15();
        canWin();
        lastCall();
        Check.end();
    }

    private static OldStadium told(int n, int... orders) {
        OldStadium x = new OldStadium();
        Check.is("five(" + n + ")", x.five(n), true);
        for (int i = 0; i < orders.length; i++) {
            Check.is("event " + i + " of " + n, x.event(orders[i]), i + 1);
        }
        return x;
    }

    private static String text(int[] row) {
        return Arrays.toString(row);
    }

    // ---- promise 12

    private static void promise12() {
        fiveRefused();
        fiveBegins();
        fiveInPlaceOfAny();
    }

    /** "1 .. 4 ATHLETES"; "Refused: another n." */
    private static void fiveRefused() {
        for (int n : new int[] {0, -1, 5, 6, 10, MIN, MAX}) {
            Refused.no("first five(" + n + ")", OldStadium::new, x -> x.five(n));
            Refused.no("five(" + n + ") at first", () -> told(3), x -> x.five(n));
            Refused.no("five(" + n + ") amid", () -> told(3, 210, 120), x -> x.five(n));
            Refused.no("five(" + n + ") when it is won", () -> told(3, 210, 120, 210), x -> x.five(n));
        }
    }

    /** "FIVE begins for n ATHLETES: true." */
    private static void fiveBegins() {
        for (int n = 1; n <= 4; n++) {
            OldStadium x = told(n);
            for (int a = -1; a <= 5; a++) {
                boolean there = a >= 0 && a < n;
                Check.is("wins of " + a + " of " + n, x.athlete(a, 0), there ? 0 : NONE);
                Check.is("sum of " + a + " of " + n, x.athlete(a, 1), there ? 0 : NONE);
                Check.is("can " + a + " of " + n, x.athlete(a, 2), there ? 1 : NONE);
            }
            Check.is("won of " + n, x.won(), NONE);
        }
    }

    /** A new FIVE has nothing of the former one: begun, amid, won early, won behind five. */
    private static void fiveInPlaceOfAny() {
        int[][] former = {{}, {3210}, {3210, 321}, {3210, 3210, 3210}, {3210, 3210, 321, 321, 3012}};
        for (int[] orders : former) {
            for (int n = 1; n <= 4; n++) {
                int many = n;
                String anew = Probe.of(() -> {
                    OldStadium x = told(4, orders);
                    Check.is("five anew", x.five(many), true);
                    return x;
                });
                Check.is("five(" + n + ") behind " + text(orders), anew.equals(Probe.of(() -> told(many))), true);
            }
        }
    }

    // ---- promise 13

    private static void promise13() {
        allOrders();
        ordersRefused();
        eventWithoutFive();
        eventWhenWon();
        placesOfDigits();
    }

    /** Of the numbers from -20000 to 130000 only the ORDERS are taken, of each n. */
    private static void allOrders() {
        for (int n = 1; n <= 4; n++) {
            OldStadium x = told(n);
            int taken = 0;
            for (int order = -20_000; order < 130_000; order++) {
                boolean due = isOrder(order, n);
                Check.is("event(" + order + ") of " + n, x.event(order), due ? 1 : NONE);
                taken += due ? 1 : 0;
                if (due || order % 500 == 0) {
                    Check.is("nothing else was told of " + n, x.athlete(0, 1) > 0, due);
                    x = told(n);
                }
            }
            Check.is("orders of " + n, taken, new int[] {1, 2, 6, 24}[n - 1]);
        }
    }

    private static boolean isOrder(int order, int n) {
        StringBuilder digits = new StringBuilder(String.valueOf(order));
        while (digits.length() < n) {
            digits.insert(0, '0');
        }
        if (digits.length() > n) {
            return false;
        }
        for (int a = 0; a < n; a++) {
            if (digits.indexOf(String.valueOf(a)) < 0) {
                return false;
            }
        }
        return true;
    }

    /**
     * "the number is below 0, some digit of the lowest n is none such or there twice, or there is more ahead of them":
     * each by itself, at the first and at the last digit, amid a FIVE.
     */
    private static void ordersRefused() {
        int[][] bad = {{1, -1}, {1, 1}, {1, 9}, {1, 10}, {1, 100}, {1, MIN}, {1, MAX}, {1, -10}, {1, 1_000_000_000},
            {2, -10}, {2, -1}, {2, 0}, {2, 11}, {2, 12}, {2, 20}, {2, 2}, {2, 110}, {2, 101}, {2, 1_000_000_010},
            {3, -210}, {3, -12}, {3, 310}, {3, 13}, {3, 213}, {3, 211}, {3, 220}, {3, 0}, {3, 10}, {3, 1210},
            {3, 3210}, {3, 1_000_000_210}, {3, 2_000_000_012},
            {4, -3210}, {4, -123}, {4, 4210}, {4, 3214}, {4, 124}, {4, 3200}, {4, 3310}, {4, 120}, {4, 13_210},
            {4, 43_210}, {4, 10_123}, {4, 1_000_003_210}, {4, 2_000_000_123}, {4, MAX}, {4, MIN}};
        int[] first = {0, 10, 210, 3210};
        for (int[] b : bad) {
            String what = "event(" + b[1] + ") of " + b[0];
            Refused.none(what + " at first", () -> told(b[0]), x -> x.event(b[1]));
            Refused.none(what + " amid", () -> told(b[0], first[b[0] - 1]), x -> x.event(b[1]));
        }
    }

    /** "Refused: no FIVE". */
    private static void eventWithoutFive() {
        for (int order : new int[] {0, 10, 1, 210, 3210, -1, MIN, MAX}) {
            Refused.none("event(" + order + ") without a five", OldStadium::new, x -> x.event(order));
        }
    }

    /** "Refused: .. it is WON": by three WINS in three, four and five EVENTS, and behind five EVENTS without. */
    private static void eventWhenWon() {
        Refused.none("behind three", () -> told(2, 10, 10, 10), x -> x.event(10));
        Refused.none("behind four", () -> told(2, 10, 1, 10, 10), x -> x.event(1));
        Refused.none("behind five", () -> told(2, 10, 1, 1, 10, 10), x -> x.event(10));
        Refused.none("behind five without three wins", () -> told(3, 210, 21, 102, 210, 21), x -> x.event(102));
        Refused.none("of one alone", () -> told(1, 0, 0, 0), x -> x.event(0));
        Refused.none("a wrong order behind the end", () -> told(2, 10, 10, 10), x -> x.event(11));
    }

    /** "of the digits of a number, the lowest first, each an ATHLETE" ("first place first"). */
    private static void placesOfDigits() {
        for (int order = 0; order < 4000; order++) {
            if (isOrder(order, 4)) {
                OldStadium x = told(4, order);
                int rest = order;
                for (int place = 1; place <= 4; place++, rest /= 10) {
                    Check.is("sum at place " + place + " of " + order, x.athlete(rest % 10, 1), place);
                    Check.is("wins at place " + place + " of " + order, x.athlete(rest % 10, 0), place == 1 ? 1 : 0);
                }
            }
        }
    }

    // ---- promise 14

    private static void promise14() {
        athleteOfNone();
        winsAndSums();
        askingChangesNothing();
    }

    /** "NONE: none such, another what." */
    private static void athleteOfNone() {
        List<Supplier<OldStadium>> states = List.of(() -> told(1), () -> told(2, 10), () -> told(3, 210, 210, 210),
            () -> told(4, 3210, 3210, 321, 321, 3012));
        for (int n = 1; n <= 4; n++) {
            OldStadium x = states.get(n - 1).get();
            for (int a : new int[] {-1, n, n + 1, 4, MIN, MAX}) {
                for (int what = 0; what < 3; what++) {
                    Check.is("athlete(" + a + ", " + what + ") of " + n, x.athlete(a, what), NONE);
                }
            }
            for (int what : new int[] {-1, 3, 4, MIN, MAX}) {
                Check.is("athlete(0, " + what + ") of " + n, x.athlete(0, what), NONE);
                Check.is("athlete(" + (n - 1) + ", " + what + ")", x.athlete(n - 1, what), NONE);
            }
            for (int what = 0; what < 3; what++) {
                Check.is("the last athlete of " + n, x.athlete(n - 1, what) != NONE, true);
                Check.is("without a five", new OldStadium().athlete(n - 1, what), NONE);
            }
        }
    }

    /** "WINS: EVENTS in which one was first; SUM: of all places (1 .. n) so far": the least and the greatest ones. */
    private static void winsAndSums() {
        OldStadium x = told(4, 3210, 3201, 3012, 3120, 3021);
        Check.is("a sum of 20", x.athlete(3, 1), 20);
        Check.is("no wins", x.athlete(3, 0), 0);
        x = told(1, 0, 0, 0);
        Check.is("three of one alone", x.athlete(0, 1), 3);
        Check.is("three wins of one alone", x.athlete(0, 0), 3);
        x = told(2, 10, 1, 10, 1, 10);
        Check.is("a sum of 7", x.athlete(0, 1), 7);
        Check.is("a sum of 8", x.athlete(1, 1), 8);
        Check.is("three wins", x.athlete(0, 0), 3);
        Check.is("two wins", x.athlete(1, 0), 2);
    }

    private static void askingChangesNothing() {
        for (int what = -1; what < 4; what++) {
            int asked = what;
            Refused.changesNothing("athlete(1, " + what + ")", () -> told(3, 210, 120), x -> x.athlete(1, asked));
            Refused.changesNothing("athlete(3, " + what + ")", () -> told(3, 210, 120), x -> x.athlete(3, asked));
        }
        Refused.changesNothing("won()", () -> told(3, 210, 120), OldStadium::won);
    }

    // ---- promise 15

    private static void promise15() {
        notWon();
        threeWins();
        behindFive();
    }

    /** "NONE if it is not": without a FIVE, at first, with two WINS of four EVENTS. */
    private static void notWon() {
        Check.is("won without a five", new OldStadium().won(), NONE);
        Check.is("won at first", told(4).won(), NONE);
        Check.is("won of one with two wins", told(1, 0, 0).won(), NONE);
        Check.is("won of two twice", told(2, 10, 10, 1, 1).won(), NONE);
        Check.is("won behind four of four", told(4, 3210, 3201, 3012, 123).won(), NONE);
    }

    /** "It is WON as soon as one has three WINS": in the third EVENT, the fourth and the fifth, by each ATHLETE. */
    private static void threeWins() {
        int[] firstOf = {3210, 3201, 3102, 2103};
        for (int a = 0; a < 4; a++) {
            int other = firstOf[(a + 1) % 4];
            int third = firstOf[(a + 2) % 4];
            OldStadium x = told(4, firstOf[a], firstOf[a]);
            Check.is("two wins", x.won(), NONE);
            x.event(firstOf[a]);
            Check.is("three of three", x.won(), a);
            x = told(4, other, firstOf[a], firstOf[a], firstOf[a]);
            Check.is("three of four", x.won(), a);
            x = told(4, other, firstOf[a], third, firstOf[a]);
            Check.is("two of four", x.won(), NONE);
            x.event(firstOf[a]);
            Check.is("three of five", x.won(), a);
        }
    }

    /** "behind five EVENTS by the most WINS, of equal ones the least SUM, of equal ones the less number". */
    private static void behindFive() {
        OldStadium most = told(4, 3120, 1230, 2301, 132, 213);
        Check.is("sum of who has two wins", most.athlete(0, 1), 12);
        Check.is("the most wins", most.won(), 0);
        OldStadium worse = told(4, 3210, 3210, 321, 132, 213);
        Check.is("its two wins", worse.athlete(0, 0), 2);
        Check.is("the most wins, and the greatest sum but one", worse.athlete(0, 1), 14);
        Check.is("one with one win has less", worse.athlete(1, 1) < 14, true);
        Check.is("the most wins with no least sum", worse.won(), 0);
        OldStadium sum = told(3, 210, 120, 201, 21, 12);
        Check.is("two wins of 0", sum.athlete(0, 0), 2);
        Check.is("two wins of 1", sum.athlete(1, 0), 2);
        Check.is("sum of 0", sum.athlete(0, 1), 10);
        Check.is("sum of 1", sum.athlete(1, 1), 9);
        Check.is("the least sum", sum.won(), 1);
        OldStadium equal = told(3, 210, 120, 201, 201, 12);
        Check.is("equal sums", equal.athlete(0, 1), equal.athlete(1, 1));
        Check.is("equal wins", equal.athlete(0, 0), equal.athlete(1, 0));
        Check.is("the less number", equal.won(), 0);
        OldStadium last = told(4, 123, 1032, 312, 1023, 1230);
        Check.is("equal sums of 2 and 3", last.athlete(2, 1), last.athlete(3, 1));
        Check.is("equal wins of 2 and 3", last.athlete(2, 0), last.athlete(3, 0));
        Check.is("the less number of the last two", last.won(), 2);
    }

    // ---- CAN win

    private static void canWin() {
        canWhenWon();
        canBySums();
        for (int n = 1; n <= 4; n++) {
            canOfAllStates(n);
        }
    }

    /** Behind the end no EVENTS are left: who has WON, and nobody else. */
    private static void canWhenWon() {
        OldStadium x = told(4, 3210, 3210, 3210);
        for (int a = 0; a < 4; a++) {
            Check.is("can " + a + " behind three", x.athlete(a, 2), a == 0 ? 1 : 0);
        }
        x = told(3, 210, 120, 201, 21, 12);
        for (int a = 0; a < 3; a++) {
            Check.is("can " + a + " behind five", x.athlete(a, 2), a == 1 ? 1 : 0);
        }
    }

    /**
     * One that comes to two WINS by being first in all that are left, against one that has two and is last in them: its
     * SUM then is one less, equal, or one more. {n, athlete, whether it can, orders ..}
     */
    private static void canBySums() {
        int[][] all = {
            {3, 0, 1, 12, 201, 12}, {3, 0, 1, 12, 21, 201}, {3, 0, 0, 21, 21, 12},
            {3, 2, 1, 21, 210, 21}, {3, 1, 0, 120, 102, 210}, {3, 2, 0, 210, 201, 210},
            {3, 0, 1, 102, 210, 201, 21}, {3, 0, 1, 12, 12, 120, 201}, {3, 0, 0, 210, 21, 201, 12},
            {3, 2, 1, 210, 210, 21, 12}, {3, 2, 0, 102, 210, 201, 21}, {3, 2, 0, 210, 201, 12, 210},
            {4, 0, 1, 123, 2103, 2031}, {4, 2, 1, 123, 2103, 2031}, {4, 1, 0, 1032, 3102, 1023},
            {4, 3, 1, 3012, 1320, 132}, {4, 3, 0, 312, 2301, 3021}, {4, 3, 0, 2310, 3021, 3021},
            {4, 0, 1, 3012, 3012, 1320, 2013}, {4, 1, 1, 321, 2103, 1302, 2103}, {4, 0, 0, 3210, 1023, 321, 321},
            {4, 2, 1, 3201, 3012, 2031, 1320}, {4, 3, 0, 3210, 1023, 321, 321}, {4, 3, 0, 3012, 3012, 1320, 2013}};
        for (int[] t : all) {
            int[] orders = Arrays.copyOfRange(t, 3, t.length);
            OldStadium x = told(t[0], orders);
            Check.is("can " + t[1] + " behind " + text(orders), x.athlete(t[1], 2), t[2]);
        }
    }

    /** What is known of a FIVE: {told, then WINS and SUM of each}; and one run of ORDERS that leads there. */
    private record State(List<Integer> known, int[] orders) {
        int winner(int n) {
            int best = 0;
            for (int a = 1; a < n; a++) {
                int wins = known.get(1 + 2 * a) - known.get(1 + 2 * best);
                int sums = known.get(2 + 2 * a) - known.get(2 + 2 * best);
                best = wins > 0 || wins == 0 && sums < 0 ? a : best;
            }
            return known.get(1 + 2 * best) >= 3 || known.get(0) == 5 ? best : NONE;
        }

        State with(int order, int n) {
            List<Integer> next = new ArrayList<>(known);
            next.set(0, known.get(0) + 1);
            int rest = order;
            for (int place = 1; place <= n; place++, rest /= 10) {
                int at = 1 + 2 * (rest % 10);
                next.set(at, next.get(at) + (place == 1 ? 1 : 0));
                next.set(at + 1, next.get(at + 1) + place);
            }
            int[] all = Arrays.copyOf(orders, orders.length + 1);
            all[orders.length] = order;
            return new State(next, all);
        }
    }

    /** "One CAN win, if for some ORDERS of the EVENTS that are left it would be WON by it": all that can come about. */
    private static void canOfAllStates(int n) {
        List<Integer> orders = new ArrayList<>();
        for (int order = 0; order < 4000; order++) {
            if (isOrder(order, n)) {
                orders.add(order);
            }
        }
        List<Integer> none = new ArrayList<>();
        for (int i = 0; i < 1 + 2 * n; i++) {
            none.add(0);
        }
        canBits(new State(none, new int[0]), n, orders, new HashMap<>());
    }

    private static int canBits(State s, int n, List<Integer> orders, Map<List<Integer>, Integer> found) {
        Integer known = found.get(s.known());
        if (known != null) {
            return known;
        }
        int winner = s.winner(n);
        int bits = winner == NONE ? 0 : 1 << winner;
        for (int i = 0; i < orders.size() && winner == NONE; i++) {
            bits |= canBits(s.with(orders.get(i), n), n, orders, found);
        }
        found.put(s.known(), bits);
        OldStadium x = new OldStadium();
        x.five(n);
        for (int order : s.orders()) {
            x.event(order);
        }
        Check.is("won behind " + text(s.orders()), x.won(), winner);
        for (int a = 0; a < n; a++) {
            Check.is("can " + a + " behind " + text(s.orders()), x.athlete(a, 2), bits >> a & 1);
        }
        return bits;
    }

    // ---- "An object is used for at most 512 calls"

    private static void lastCall() {
        OldStadium x = new OldStadium();
        for (int i = 0; i < 127; i++) {
            x.five(2);
            x.event(10);
            x.event(1);
            x.event(10);
        }
        x.event(1);
        x.athlete(0, 2);
        Check.is("call 511", x.event(10), 5);
        Check.is("call 512", x.won(), 0);
    }
}
