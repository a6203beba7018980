import java.util.List;
import java.util.function.Supplier;

/** Promises 21 to 29 and term 4: each sentence that names a boundary, by itself. */
public final class BoundsStonesTest {
    private static final int NONE = OldStadium.NONE;
    private static final int MIN = Integer.MIN_VALUE;
    private static final int MAX = Integer.MAX_VALUE;
    private static final int A = 1 << 24;
    private static final int B = 2 << 24;
    private static final int C = 3 << 24;

    public static void main(String[] args) {
        promise21();
        promise22();
        promise23();
        promise24();
        promise25();
        promise26();
        promise27();
        promise28();
        promise29();
        lastCall();
        Check.end();
    }

    // ---- states

    /** A stone with one letter, or none, of no town. */
    private static void add(OldStadium x, int number, int event, int a, int b, int letter) {
        Check.is("stone " + number, x.stone(event, a, b, letter, 0, NONE), number);
    }

    /** Four stones of two events; 0 and 2 are joined, 1 and 3 do not agree. */
    private static OldStadium some() {
        OldStadium x = new OldStadium();
        add(x, 0, 0, 3, 8, 0);
        add(x, 1, 0, 4, 6, A);
        add(x, 2, 1, 12, 17, 0);
        add(x, 3, 0, 5, 5, B);
        x.join(0, 2, true);
        x.span(10);
        return x;
    }

    /** Six stones that allow no roll: 4 and 5 do not agree, and are joined. */
    private static OldStadium full() {
        OldStadium x = some();
        add(x, 4, 3, 0, 5, A);
        add(x, 5, 3, 35, 40, C);
        x.join(4, 5, true);
        return x;
    }

    // ---- promise 21

    private static void promise21() {
        stoneEvents();
        stoneYears();
        stoneLetters();
        stoneTowns();
        sixStones();
    }

    /** "an EVENT 0 .. 3"; "Refused: numbers not as told". */
    private static void stoneEvents() {
        for (int event = 0; event < 4; event++) {
            Check.is("event " + event, new OldStadium().stone(event, 0, 0, 0, 0, 0), 0);
        }
        for (int event : new int[] {-1, 4, 5, MIN, MAX}) {
            Refused.none("first of event " + event, OldStadium::new, x -> x.stone(event, 0, 0, 0, 0, 0));
            Refused.none("fifth of event " + event, BoundsStonesTest::some, x -> x.stone(event, 0, 0, 0, 0, 0));
        }
        OldStadium x = new OldStadium();
        for (int event = 0; event < 4; event++) {
            add(x, event, event, 7, 7, (event + 1) * A);
        }
        Check.is("four events in one year", x.rolls(), 1);
        for (int event = 0; event < 4; event++) {
            OldStadium two = new OldStadium();
            add(two, 0, event, 7, 7, A);
            add(two, 1, event, 7, 7, B);
            Check.is("one event in one year", two.rolls(), 0);
        }
    }

    /** "YEARS from a to b (0 .. 40, b - a from 0 to 5)": all from -3 to 44, and numbers that would wrap around. */
    private static void stoneYears() {
        for (int a = -3; a <= 44; a++) {
            for (int b = -3; b <= 44; b++) {
                OldStadium x = new OldStadium();
                boolean due = a >= 0 && b <= 40 && b - a >= 0 && b - a <= 5;
                Check.is("years " + a + " to " + b, x.stone(0, a, b, 0, 0, 0), due ? 0 : NONE);
                Check.is("rolls of " + a + " to " + b, x.rolls(), due ? b - a + 1 : 1);
                Check.is("least of " + a + " to " + b, x.year(0, 0), due ? a : NONE);
                Check.is("greatest of " + a + " to " + b, x.year(0, 1), due ? b : NONE);
                Check.is("how many of " + a + " to " + b, x.year(0, 2), due ? b - a + 1 : NONE);
            }
        }
        int[][] bad = {{-1, 0}, {-1, -1}, {40, 41}, {41, 41}, {36, 41}, {5, 4}, {40, 39}, {0, 6}, {34, 40}, {0, 40},
            {MIN, 0}, {MIN, MIN}, {0, MAX}, {MAX, MAX}, {MIN, MAX}, {MAX, MIN}, {MAX, MIN + 4}, {0, MIN}, {MAX, 0}};
        for (int[] b : bad) {
            String what = "stone of years " + b[0] + " to " + b[1];
            Refused.none(what, BoundsStonesTest::some, x -> x.stone(0, b[0], b[1], 0, 0, 0));
        }
    }

    /** "a NAME: eight places, each a letter 1 .. 26, or 0 (worn away)"; "four each, the first in the highest byte". */
    private static void stoneLetters() {
        for (int place = 0; place < 8; place++) {
            for (int letter = 0; letter < 256; letter++) {
                OldStadium x = new OldStadium();
                int bits = letter << 24 - 8 * (place % 4);
                int got = place < 4 ? x.stone(0, 0, 0, bits, 0, 0) : x.stone(0, 0, 0, 0, bits, 0);
                Check.is("letter " + letter + " at " + place, got, letter <= 26 ? 0 : NONE);
                for (int i = 0; i < 8; i++) {
                    int due = letter > 26 ? NONE : i == place ? letter : 0;
                    Check.is("place " + i + " of letter " + letter + " at " + place, x.letter(0, i), due);
                }
            }
        }
        Check.is("the last letter at all places", new OldStadium().stone(0, 0, 0, 0x1a1a1a1a, 0x1a1a1a1a, 0), 0);
        int[] bad = {-1, MIN, MAX, 27, 255, 0x1a1a1a1b, 0x1a1a1b1a, 0x1a1b1a1a, 0x1b1a1a1a, 0x80010101, 0x01800101};
        for (int letters : bad) {
            Refused.none("first " + letters, BoundsStonesTest::some, x -> x.stone(0, 0, 0, letters, 0, 0));
            Refused.none("last " + letters, BoundsStonesTest::some, x -> x.stone(0, 0, 0, 0, letters, 0));
        }
    }

    /** "a TOWN 0 .. 9, or NONE". */
    private static void stoneTowns() {
        for (int town = -1; town <= 9; town++) {
            Check.is("town " + town, new OldStadium().stone(0, 0, 0, 0, 0, town), 0);
        }
        for (int town : new int[] {-2, 10, 11, MIN, MAX}) {
            Refused.none("first of town " + town, OldStadium::new, x -> x.stone(0, 0, 0, 0, 0, town));
            Refused.none("fifth of town " + town, BoundsStonesTest::some, x -> x.stone(0, 0, 0, 0, 0, town));
        }
    }

    /** "STONES 0 .. (at most 6)"; "Refused: .. 6." */
    private static void sixStones() {
        OldStadium x = new OldStadium();
        for (int i = 0; i < 6; i++) {
            add(x, i, i % 4, i, i + 5, (i + 1) * A);
        }
        for (int i = 0; i < 6; i++) {
            Check.is("letter of stone " + i, x.letter(i, 0), i + 1);
        }
        Check.is("no stone 6", x.letter(6, 0), NONE);
        Refused.none("a seventh one", BoundsStonesTest::full, y -> y.stone(0, 0, 0, 0, 0, 0));
        Refused.none("a seventh one of no event", BoundsStonesTest::full, y -> y.stone(4, 0, 0, 0, 0, 0));
        Check.is("one is broken up", x.lose(5), 5);
        Check.is("there is room for one", x.stone(0, 0, 0, 0, 0, 0), 5);
        Check.is("and for no other", x.stone(0, 0, 0, 0, 0, 0), NONE);
    }

    // ---- promise 22

    private static void promise22() {
        joinRefused();
        joinOfAllPairs();
        joinsBesideOneAnother();
        joinAgain();
    }

    /** "Refused: no such two": none such, on each side, and one alone. */
    private static void joinRefused() {
        int[][] bad = {{-1, 0}, {0, -1}, {4, 0}, {0, 4}, {4, 4}, {-1, -1}, {-1, 4}, {0, 0}, {3, 3}, {5, 0}, {0, 32},
            {32, 0}, {MIN, 0}, {0, MIN}, {MAX, 0}, {0, MAX}, {MIN, MAX}};
        for (int[] b : bad) {
            String of = " of " + b[0] + " and " + b[1];
            Refused.no("join" + of, BoundsStonesTest::some, x -> x.join(b[0], b[1], true));
            Refused.no("parting" + of, BoundsStonesTest::some, x -> x.join(b[0], b[1], false));
        }
        Refused.no("join without stones", OldStadium::new, x -> x.join(0, 1, true));
        Refused.no("join of 6", BoundsStonesTest::full, x -> x.join(0, 6, true));
        Refused.no("join of one alone", () -> {
            OldStadium x = new OldStadium();
            add(x, 0, 0, 0, 0, 0);
            return x;
        }, x -> x.join(0, 1, true));
    }

    /** "Two STONES are JOINED, or not: true": each pair, told either way round. */
    private static void joinOfAllPairs() {
        for (int a = 0; a < 6; a++) {
            for (int b = 0; b < 6; b++) {
                if (a != b) {
                    OldStadium x = new OldStadium();
                    for (int i = 0; i < 6; i++) {
                        add(x, i, 0, 4 * i, 4 * i, 0);
                    }
                    x.span(0);
                    String of = " of " + a + " and " + b;
                    Check.is("join" + of, x.join(a, b, true), true);
                    Check.is("no rolls, joined" + of, x.rolls(), 0);
                    Check.is("one of the two is wrong" + of, x.wrong(), 1 << Math.min(a, b));
                    Check.is("parting" + of, x.join(b, a, false), true);
                    Check.is("a roll, parted" + of, x.rolls(), 1);
                }
            }
        }
    }

    /** All pairs are joined and all but one are parted: that one is left, and no other. */
    private static void joinsBesideOneAnother() {
        for (int a = 0; a < 6; a++) {
            for (int b = 0; b < 6; b++) {
                if (a != b) {
                    OldStadium x = new OldStadium();
                    for (int i = 0; i < 6; i++) {
                        add(x, i, i % 4, 4 * i, 4 * i, (1 << 16) * (i % 2));
                    }
                    x.span(0);
                    joinAll(x, true, NONE, NONE);
                    Check.is("all joined, in six years", x.wrong(), 0b011111);
                    joinAll(x, false, a, b);
                    Check.is("left are " + a + " and " + b, x.wrong(), 1 << Math.min(a, b));
                    x.join(a, b, false);
                    Check.is("none are left", x.rolls(), 1);
                }
            }
        }
    }

    /** All pairs but one; every other one is told the other way round. */
    private static void joinAll(OldStadium x, boolean are, int butA, int butB) {
        for (int a = 0; a < 6; a++) {
            for (int b = 0; b < a; b++) {
                if (a != Math.max(butA, butB) || b != Math.min(butA, butB)) {
                    boolean turned = (a + b) % 2 == 0;
                    Check.is("told", x.join(turned ? a : b, turned ? b : a, are), true);
                }
            }
        }
    }

    /** What is joined may be joined, what is not may be parted: nothing changes then. */
    private static void joinAgain() {
        Check.is("join of a joined pair", some().join(2, 0, true), true);
        Check.is("parting of a pair not joined", some().join(1, 3, false), true);
        Refused.changesNothing("join of a joined pair", BoundsStonesTest::some, x -> x.join(2, 0, true) ? 1 : 0);
        Refused.changesNothing("parting of no pair", BoundsStonesTest::some, x -> x.join(1, 3, false) ? 1 : 0);
    }

    // ---- promise 23

    private static void promise23() {
        spanNumbers();
        spanRefused();
        yearsApart();
    }

    /** "SPAN becomes v: what it was" ("0 .. 40, at first 12"). */
    private static void spanNumbers() {
        OldStadium x = new OldStadium();
        int was = 12;
        for (int v = 0; v <= 40; v++) {
            Check.is("span " + v, x.span(v), was);
            was = v;
        }
        Check.is("back to 0", x.span(0), 40);
        Check.is("0 again", x.span(0), 0);
        x.stone(0, 0, 0, 0, 0, 0);
        x.lose(0);
        Check.is("it stays when stones go", x.span(12), 0);
    }

    /** "Refused: another v." */
    private static void spanRefused() {
        for (int v : new int[] {-1, -2, 41, 42, MIN, MAX}) {
            Refused.none("span " + v + " in a new object", OldStadium::new, x -> x.span(v));
            Refused.none("span " + v, BoundsStonesTest::some, x -> x.span(v));
        }
    }

    /** "of two that are JOINED the YEARS are at most SPAN .. apart": just so far, and one year more; either ahead. */
    private static void yearsApart() {
        for (int span = 0; span <= 40; span++) {
            for (int apart = Math.max(0, span - 1); apart <= Math.min(40, span + 1); apart++) {
                for (int first = 0; first < 2; first++) {
                    OldStadium x = new OldStadium();
                    add(x, 0, 0, first == 0 ? 0 : apart, first == 0 ? 0 : apart, 0);
                    add(x, 1, 1, first == 0 ? apart : 0, first == 0 ? apart : 0, 0);
                    x.span(span);
                    Check.is("not joined, apart by " + apart, x.rolls(), 1);
                    x.join(0, 1, true);
                    Check.is("apart by " + apart + ", span " + span, x.rolls(), apart <= span ? 1 : 0);
                }
            }
        }
        OldStadium x = new OldStadium();
        add(x, 0, 0, 0, 1, 0);
        add(x, 1, 1, 13, 13, 0);
        x.join(0, 1, true);
        Check.is("at first 12, not 13", x.rolls(), 1);
        Check.is("the year that is 12 apart", x.year(0, 0), 1);
    }

    // ---- promise 24

    private static void promise24() {
        loseRefused();
        loseEach();
        loseKeepsJoins();
        loseAll();
    }

    /** "Refused: none such." */
    private static void loseRefused() {
        for (int stone : new int[] {-1, 0, 1, MIN, MAX}) {
            Refused.none("lose(" + stone + ") without stones", OldStadium::new, x -> x.lose(stone));
        }
        for (int stone : new int[] {-1, 4, 5, 6, MIN, MAX}) {
            Refused.none("lose(" + stone + ") of four", BoundsStonesTest::some, x -> x.lose(stone));
        }
        Refused.none("lose(6) of six", BoundsStonesTest::full, x -> x.lose(6));
    }

    /** "all behind it have one number less: how many there are": each field of those, of each stone lost. */
    private static void loseEach() {
        for (int lost = 0; lost < 6; lost++) {
            OldStadium x = new OldStadium();
            for (int i = 0; i < 6; i++) {
                Check.is("stone", x.stone(i % 4, 6 * i, 6 * i + i % 5, (i + 1) * A, (i + 7) << 8, i), i);
            }
            Check.is("lose(" + lost + ")", x.lose(lost), 5);
            for (int i = 0; i < 5; i++) {
                int was = i < lost ? i : i + 1;
                Check.is("first letter of " + i, x.letter(i, 0), was + 1);
                Check.is("letter 6 of " + i, x.letter(i, 6), was + 7);
                Check.is("least year of " + i, x.year(i, 0), 6 * was);
                Check.is("greatest year of " + i, x.year(i, 1), 6 * was + was % 5);
            }
            Check.is("none behind", x.letter(5, 0), NONE);
            Check.is("none behind agrees", x.agree(0, 5), NONE);
        }
        eventsAndTownsOfTheOthers();
    }

    /** Those of events 0 .. 3 have towns 5 .. 8; a fifth one of each event and town tells them apart. */
    private static void eventsAndTownsOfTheOthers() {
        for (int lost = 0; lost < 5; lost++) {
            OldStadium x = new OldStadium();
            for (int i = 0; i < 5; i++) {
                int event = i == lost ? 0 : i < lost ? i : i - 1;
                x.stone(event, 7, 7, 0, 0, event + 5);
            }
            x.lose(lost);
            for (int event = 0; event < 4; event++) {
                for (int town = 5; town < 9; town++) {
                    Check.is("a new one", x.stone(event, 7, 7, 0, 0, town), 4);
                    Check.is("its town is that of " + event, x.agree(event, 4), event + 5 == town ? 1 : 0);
                    Check.is("its event is that of " + event, x.rolls(), event + 5 == town ? 1 : 0);
                    x.lose(4);
                }
            }
        }
    }

    /** JOINED pairs stay joined under their new numbers; those of the lost one are none, of a new one neither. */
    private static void loseKeepsJoins() {
        for (int a = 0; a < 6; a++) {
            for (int b = 0; b < a; b++) {
                for (int lost = 0; lost < 6; lost++) {
                    OldStadium x = new OldStadium();
                    for (int i = 0; i < 6; i++) {
                        add(x, i, 0, 4 * i, 4 * i, 0);
                    }
                    x.span(0);
                    x.join(a, b, true);
                    x.lose(lost);
                    String of = a + " and " + b + " without " + lost;
                    boolean stays = lost != a && lost != b;
                    int less = b - (lost < b ? 1 : 0);
                    Check.is("wrong of " + of, x.wrong(), stays ? 1 << less : 0);
                    Check.is("rolls of " + of, x.rolls(), stays ? 0 : 1);
                    add(x, 5, 0, 40, 40, 0);
                    Check.is("a new one is joined with none: " + of, x.wrong(), stays ? 1 << less : 0);
                    if (stays) {
                        x.join(less, a - (lost < a ? 1 : 0), false);
                        Check.is("parted under the new numbers: " + of, x.rolls(), 1);
                    }
                }
            }
        }
    }

    /** Down to none, which is as a new object but for SPAN. */
    private static void loseAll() {
        OldStadium x = full();
        for (int many = 5; many >= 0; many--) {
            Check.is("lose(0)", x.lose(0), many);
        }
        Check.is("lose of none", x.lose(0), NONE);
        Check.is("rolls of none", x.rolls(), 1);
        Check.is("wrong of none", x.wrong(), 0);
        x.span(12);
        Supplier<OldStadium> emptied = () -> {
            OldStadium y = full();
            for (int many = 5; many >= 0; many--) {
                y.lose(many);
            }
            y.span(12);
            return y;
        };
        Check.is("as a new one", Probe.of(emptied).equals(Probe.of(OldStadium::new)), true);
    }

    // ---- promise 25

    private static void promise25() {
        agreeOfNone();
        agreeAtEachPlace();
        agreeByTowns();
        agreeWithItself();
    }

    /** "NONE: none such." */
    private static void agreeOfNone() {
        int[][] bad = {{-1, 0}, {0, -1}, {4, 0}, {0, 4}, {4, 4}, {-1, -1}, {5, 0}, {MIN, 0}, {0, MIN}, {MAX, 0}, {0, MAX}};
        for (int[] b : bad) {
            Check.is("agree(" + b[0] + ", " + b[1] + ")", some().agree(b[0], b[1]), NONE);
            Refused.changesNothing("agree of none", BoundsStonesTest::some, x -> x.agree(b[0], b[1]));
        }
        Check.is("agree without stones", new OldStadium().agree(0, 0), NONE);
        Check.is("agree of 6", full().agree(5, 6), NONE);
    }

    /** "if at no place both have letters that are unlike": unlike, alike, worn away on each side, at each place. */
    private static void agreeAtEachPlace() {
        int[] letters = {0, 1, 2, 25, 26};
        for (int place = 0; place < 8; place++) {
            for (int of : letters) {
                for (int and : letters) {
                    OldStadium x = new OldStadium();
                    int shift = 24 - 8 * (place % 4);
                    int rest = 0x05050505 & ~(255 << shift);
                    int other = place < 4 ? 0 : rest;
                    x.stone(0, 0, 0, place < 4 ? rest | of << shift : other, place < 4 ? other : rest | of << shift, 1);
                    x.stone(0, 0, 0, place < 4 ? rest | and << shift : other, place < 4 ? other : rest | and << shift, 1);
                    int due = of == 0 || and == 0 || of == and ? 1 : 0;
                    Check.is(of + " and " + and + " at " + place, x.agree(0, 1), due);
                    Check.is(and + " and " + of + " at " + place, x.agree(1, 0), due);
                    Check.is("a roll of both in one year", x.rolls(), due);
                }
            }
        }
    }

    /** "their TOWNS are not unlike (NONE is unlike none)". */
    private static void agreeByTowns() {
        for (int of = -1; of <= 9; of++) {
            for (int and = -1; and <= 9; and++) {
                OldStadium x = new OldStadium();
                x.stone(0, 0, 0, A, 0, of);
                x.stone(0, 0, 0, A, 0, and);
                int due = of == NONE || and == NONE || of == and ? 1 : 0;
                Check.is("towns " + of + " and " + and, x.agree(0, 1), due);
            }
        }
        OldStadium x = new OldStadium();
        x.stone(0, 0, 0, A, 0, 3);
        x.stone(0, 0, 0, B, 0, 3);
        Check.is("one town, unlike letters", x.agree(0, 1), 0);
        x.stone(1, 20, 20, A, 0, 4);
        Check.is("alike letters, unlike towns", x.agree(0, 2), 0);
    }

    private static void agreeWithItself() {
        OldStadium x = full();
        for (int i = 0; i < 6; i++) {
            Check.is("agree of " + i + " with itself", x.agree(i, i), 1);
        }
    }

    // ---- promise 26

    private static void promise26() {
        rollsOfFew();
        rollsOfSix();
        rollsOfEventsAndYears();
        rollsOfJoined();
        rollsAgainAndAgain();
    }

    /** Of no STONES there is the empty ROLL; of one as many as it has YEARS. */
    private static void rollsOfFew() {
        Check.is("rolls without stones", new OldStadium().rolls(), 1);
        for (int years = 1; years <= 6; years++) {
            OldStadium x = new OldStadium();
            add(x, 0, 0, 41 - years, 40, A);
            Check.is("rolls of one with " + years, x.rolls(), years);
        }
    }

    /** The most there can be, 6 to the 6; none that agree; and none at all. */
    private static void rollsOfSix() {
        OldStadium all = new OldStadium();
        OldStadium unlike = new OldStadium();
        OldStadium none = new OldStadium();
        for (int i = 0; i < 6; i++) {
            add(all, i, 3, 35, 40, A);
            add(unlike, i, 3, 35, 40, (i + 1) * A);
            add(none, i, 3, 36, 40, (i + 1) * A);
        }
        Check.is("all agree", all.rolls(), 46_656);
        Check.is("six in six years", unlike.rolls(), 720);
        Check.is("six in five years", none.rolls(), 0);
        for (int i = 0; i < 5; i++) {
            unlike.join(i, i + 1, false);
            all.join(i, i + 1, true);
        }
        all.span(0);
        Check.is("all in one year", all.rolls(), 6);
        all.span(40);
        Check.is("joined, any years", all.rolls(), 46_656);
    }

    /** "such that two of one EVENT and YEAR AGREE": of two EVENTS, or two YEARS, they need not. */
    private static void rollsOfEventsAndYears() {
        OldStadium x = new OldStadium();
        add(x, 0, 0, 7, 7, A);
        add(x, 1, 1, 7, 7, B);
        Check.is("two events, one year", x.rolls(), 1);
        add(x, 2, 0, 8, 8, B);
        Check.is("one event, two years", x.rolls(), 1);
        add(x, 3, 0, 7, 8, B);
        Check.is("only the year of its like", x.rolls(), 1);
        Check.is("year 8", x.year(3, 0), 8);
        add(x, 4, 0, 7, 8, C);
        Check.is("neither year", x.rolls(), 0);
    }

    /** "and they AGREE": JOINED ones that do not have no ROLL, whatever their EVENTS and YEARS. */
    private static void rollsOfJoined() {
        OldStadium x = new OldStadium();
        add(x, 0, 0, 0, 0, A);
        add(x, 1, 1, 5, 5, B);
        add(x, 2, 2, 9, 9, 0);
        x.span(40);
        Check.is("not joined", x.rolls(), 1);
        x.join(0, 2, true);
        x.join(2, 1, true);
        Check.is("pairs are joined, not all three", x.rolls(), 1);
        x.join(0, 1, true);
        Check.is("joined, not agreeing", x.rolls(), 0);
    }

    /** What was asked ahead of a change does not stand behind it. */
    private static void rollsAgainAndAgain() {
        OldStadium x = new OldStadium();
        Check.is("none", x.rolls(), 1);
        add(x, 0, 0, 0, 5, A);
        Check.is("one", x.rolls(), 6);
        Check.is("one, asked again", x.rolls(), 6);
        add(x, 1, 0, 3, 8, A);
        Check.is("two", x.rolls(), 36);
        Check.is("refused", x.stone(9, 0, 0, 0, 0, 0), NONE);
        Check.is("two still", x.rolls(), 36);
        x.join(0, 1, true);
        x.span(0);
        Check.is("joined", x.rolls(), 3);
        Check.is("years of the joined", x.year(0, 0), 3);
        x.span(1);
        Check.is("span 1", x.rolls(), 1 + 2 + 3 + 3);
        Check.is("years of span 1", x.year(0, 0), 2);
        x.join(1, 0, false);
        Check.is("parted", x.rolls(), 36);
        Check.is("wrong asked between", x.wrong(), 0);
        Check.is("the greatest year stays", x.year(0, 1), 5);
        Check.is("the number of years stays", x.year(1, 2), 6);
        x.lose(0);
        Check.is("the second one", x.rolls(), 6);
        Check.is("its least year", x.year(0, 0), 3);
    }

    // ---- promise 27

    private static void promise27() {
        yearOfNone();
        yearWithoutRolls();
        leastAndGreatest();
        yearsBetween();
    }

    /** "NONE: none such, another what". */
    private static void yearOfNone() {
        for (int what = 0; what < 3; what++) {
            Check.is("year without stones", new OldStadium().year(0, what), NONE);
            for (int stone : new int[] {-1, 4, 5, 6, MIN, MAX}) {
                Check.is("year(" + stone + ", " + what + ")", some().year(stone, what), NONE);
            }
            Check.is("year of the last one", some().year(3, what) != NONE, true);
        }
        for (int what : new int[] {-1, 3, 4, MIN, MAX}) {
            Check.is("year(0, " + what + ")", some().year(0, what), NONE);
            Check.is("year(3, " + what + ")", some().year(3, what), NONE);
        }
        for (int what = -1; what < 4; what++) {
            int asked = what;
            Refused.changesNothing("year(0, " + what + ")", BoundsStonesTest::some, x -> x.year(0, asked));
            Refused.changesNothing("year(4, " + what + ")", BoundsStonesTest::some, x -> x.year(4, asked));
        }
    }

    /** "NONE: .. there are no ROLLS": of those too that are not to blame. */
    private static void yearWithoutRolls() {
        OldStadium x = full();
        for (int stone = 0; stone < 6; stone++) {
            for (int what = 0; what < 3; what++) {
                Check.is("year(" + stone + ", " + what + ") without rolls", x.year(stone, what), NONE);
            }
        }
        x.join(4, 5, false);
        Check.is("rolls again", x.year(5, 0), 35);
        Check.is("the greatest again", x.year(5, 1), 40);
        Check.is("all its years again", x.year(5, 2), 6);
    }

    /** "The least (what 0), greatest (1) YEAR of a STONE in all ROLLS": 0 and 40, and those that others leave. */
    private static void leastAndGreatest() {
        OldStadium x = new OldStadium();
        add(x, 0, 0, 0, 5, 0);
        add(x, 1, 0, 35, 40, 0);
        int[][] due = {{0, 5, 6}, {35, 40, 6}};
        for (int stone = 0; stone < 2; stone++) {
            for (int what = 0; what < 3; what++) {
                Check.is("year(" + stone + ", " + what + ")", x.year(stone, what), due[stone][what]);
            }
        }
        x.span(31);
        x.join(0, 1, true);
        int[][] near = {{4, 5, 2}, {35, 36, 2}};
        for (int stone = 0; stone < 2; stone++) {
            for (int what = 0; what < 3; what++) {
                Check.is("joined: year(" + stone + ", " + what + ")", x.year(stone, what), near[stone][what]);
            }
        }
    }

    /** "how many of its YEARS are in some (2)": not those between the least and the greatest that are in none. */
    private static void yearsBetween() {
        OldStadium x = new OldStadium();
        add(x, 0, 2, 10, 15, A);
        add(x, 1, 2, 11, 11, B);
        add(x, 2, 2, 13, 13, B);
        add(x, 3, 2, 14, 14, C);
        Check.is("least", x.year(0, 0), 10);
        Check.is("greatest", x.year(0, 1), 15);
        Check.is("three of six", x.year(0, 2), 3);
        Check.is("one of one", x.year(1, 2), 1);
        add(x, 4, 2, 10, 10, B);
        add(x, 5, 2, 15, 15, B);
        Check.is("least of one", x.year(0, 0), 12);
        Check.is("greatest of one", x.year(0, 1), 12);
        Check.is("one of six", x.year(0, 2), 1);
    }

    // ---- promise 28

    private static void promise28() {
        wrongOfNone();
        wrongOfEachPair();
        wrongOfAllButOne();
        theLeastNumber();
        fewestIsAheadOfLeast();
        wrongOfJoined();
    }

    /** 0 if there are ROLLS of all: without STONES, of one, of six. */
    private static void wrongOfNone() {
        OldStadium x = new OldStadium();
        Check.is("wrong without stones", x.wrong(), 0);
        for (int i = 0; i < 6; i++) {
            add(x, i, 0, 35, 40, (i + 1) * A);
            Check.is("wrong of " + (i + 1), x.wrong(), 0);
        }
        Refused.changesNothing("wrong()", BoundsStonesTest::full, OldStadium::wrong);
        Refused.changesNothing("rolls()", BoundsStonesTest::full, OldStadium::rolls);
    }

    /** "as bits; of several such sets the one with the least number": of a pair the less one. */
    private static void wrongOfEachPair() {
        for (int a = 0; a < 6; a++) {
            for (int b = 0; b < a; b++) {
                OldStadium x = new OldStadium();
                for (int i = 0; i < 6; i++) {
                    add(x, i, 0, i == a || i == b ? 9 : 20 + i, i == a || i == b ? 9 : 20 + i, i == a ? A : B);
                }
                Check.is("of " + a + " and " + b, x.wrong(), 1 << b);
                Check.is("no rolls of both", x.rolls(), 0);
            }
        }
    }

    /** Six of one EVENT and YEAR of which no two AGREE: one of them can stay, the last. */
    private static void wrongOfAllButOne() {
        for (int many = 1; many <= 6; many++) {
            OldStadium x = new OldStadium();
            for (int i = 0; i < many; i++) {
                add(x, i, 0, 40, 40, (i + 1) * A);
            }
            Check.is("all but one of " + many, x.wrong(), (1 << many - 1) - 1);
        }
    }

    /** Of sets with as many STONES: each that is the least number of three pairs of a ring. */
    private static void theLeastNumber() {
        OldStadium x = new OldStadium();
        int[] letters = {A, A, B, B, C, C};
        for (int i = 0; i < 6; i++) {
            add(x, i, 0, 9, 9, letters[i]);
        }
        Check.is("two of three pairs", x.wrong(), 0b001111);
        OldStadium y = new OldStadium();
        int[] mixed = {B, A, A, B, C, C};
        for (int i = 0; i < 6; i++) {
            add(y, i, 0, 9, 9, mixed[i]);
        }
        Check.is("two of three pairs, mixed", y.wrong(), 0b001111);
        OldStadium z = new OldStadium();
        int[] last = {C, A, B, A, B, C};
        for (int i = 0; i < 6; i++) {
            add(z, i, 0, 9, 9, last[i]);
        }
        Check.is("without the pair that holds the last", z.wrong(), 0b011110);
    }

    /** "The fewest STONES": one with a great number is ahead of two with a less number. */
    private static void fewestIsAheadOfLeast() {
        OldStadium x = new OldStadium();
        add(x, 0, 0, 9, 9, A);
        add(x, 1, 0, 9, 9, A);
        add(x, 2, 0, 9, 9, A);
        add(x, 3, 0, 9, 9, B);
        Check.is("one against three", x.wrong(), 0b001000);
        add(x, 4, 0, 9, 9, A);
        add(x, 5, 0, 9, 9, B);
        Check.is("two against four", x.wrong(), 0b101000);
        OldStadium y = new OldStadium();
        for (int i = 0; i < 6; i++) {
            add(y, i, 0, 9, 9, i < 5 ? A : B);
        }
        Check.is("the last one against five", y.wrong(), 0b100000);
    }

    /** One that is joined with two others too far away is wrong by itself; a STONE left off is asked nothing. */
    private static void wrongOfJoined() {
        OldStadium x = new OldStadium();
        add(x, 0, 0, 0, 0, 0);
        add(x, 1, 1, 20, 20, 0);
        add(x, 2, 2, 1, 1, 0);
        x.join(0, 1, true);
        x.join(2, 1, true);
        Check.is("far from two", x.wrong(), 0b010);
        x.span(20);
        Check.is("near enough", x.wrong(), 0);
        x.span(19);
        Check.is("from one of them", x.wrong(), 0b001);
        x.join(0, 1, false);
        Check.is("parted", x.wrong(), 0);
        x.span(18);
        Check.is("the less of the other pair", x.wrong(), 0b010);
    }

    // ---- promise 29

    /** "Letters of place i (0 .. 7) of a STONE: 0 if it is worn away; NONE for none such." */
    private static void promise29() {
        OldStadium x = new OldStadium();
        for (int i = -1; i < 9; i++) {
            Check.is("letter(0, " + i + ") without stones", x.letter(0, i), NONE);
        }
        x.stone(0, 0, 0, 0x011a0002, 0x1a000301, 0);
        int[] due = {1, 26, 0, 2, 26, 0, 3, 1};
        for (int i = 0; i < 8; i++) {
            Check.is("letter " + i, x.letter(0, i), due[i]);
        }
        for (int i : new int[] {-1, 8, 9, MIN, MAX}) {
            Check.is("letter(0, " + i + ")", x.letter(0, i), NONE);
        }
        for (int stone : new int[] {-1, 1, 5, 6, MIN, MAX}) {
            for (int i = -1; i <= 8; i++) {
                Check.is("letter(" + stone + ", " + i + ")", x.letter(stone, i), NONE);
            }
        }
        Check.is("letter of the last of six", full().letter(5, 0), 3);
        Check.is("letter of stone 6 of six", full().letter(6, 0), NONE);
        for (int stone : List.of(0, 4)) {
            Refused.changesNothing("letter(" + stone + ", 0)", BoundsStonesTest::some, y -> y.letter(stone, 0));
            Refused.changesNothing("letter(" + stone + ", 8)", BoundsStonesTest::some, y -> y.letter(stone, 8));
        }
    }

    // ---- "An object is used for at most 512 calls"

    private static void lastCall() {
        OldStadium x = new OldStadium();
        for (int i = 0; i < 6; i++) {
            x.stone(0, 35, 40, A, 0, NONE);
        }
        for (int i = 0; i < 252; i++) {
            x.span(i % 41);
            x.rolls();
        }
        Check.is("call 511", x.wrong(), 0);
        Check.is("call 512", x.rolls(), 46_656);
    }
}
