/** Promises 21 to 29: stones, joins, rolls. */
public final class StonesTest {
    private static final int NONE = OldStadium.NONE;

    public static void main(String[] args) {
        stone();
        stoneRefused();
        letter();
        agreeByLetters();
        agreeByTowns();
        agreeIsOfTwo();
        rollsOfOneEvent();
        rollsOfJoined();
        rollsOfAll();
        join();
        span();
        lose();
        loseKeepsJoins();
        year();
        wrong();
        wrongOfJoined();
        Check.end();
    }

    private static int add(OldStadium x, int event, int a, int b, String name, int town) {
        int[] half = new int[2];
        for (int i = 0; i < 8; i++) {
            int letter = i < name.length() && name.charAt(i) != '.' ? name.charAt(i) - 'a' + 1 : 0;
            half[i / 4] = half[i / 4] << 8 | letter;
        }
        return x.stone(event, a, b, half[0], half[1], town);
    }

    private static void stone() {
        OldStadium x = new OldStadium();
        Check.is("first", x.stone(0, 0, 0, 0, 0, NONE), 0);
        Check.is("last of all numbers", x.stone(3, 35, 40, 0x1a1a1a1a, 0x1a1a1a1a, 9), 1);
        Check.is("years 0 to 5", x.stone(1, 0, 5, 0, 1, 0), 2);
        Check.is("year 40", x.stone(2, 40, 40, 1, 0, 5), 3);
        Check.is("fifth", x.stone(0, 3, 3, 0, 0, NONE), 4);
        Check.is("sixth", x.stone(0, 3, 3, 0, 0, NONE), 5);
        Check.is("seventh", x.stone(0, 3, 3, 0, 0, NONE), NONE);
    }

    private static void stoneRefused() {
        OldStadium x = new OldStadium();
        int[][] bad = {{-1, 0, 0, 0, 0, 0}, {4, 0, 0, 0, 0, 0}, {0, -1, 0, 0, 0, 0}, {0, 40, 41, 0, 0, 0},
            {0, 41, 41, 0, 0, 0}, {0, 5, 4, 0, 0, 0}, {0, 0, 6, 0, 0, 0}, {0, 0, 0, 27, 0, 0}, {0, 0, 0, 27 << 8, 0, 0},
            {0, 0, 0, 27 << 16, 0, 0}, {0, 0, 0, 27 << 24, 0, 0}, {0, 0, 0, -1, 0, 0}, {0, 0, 0, 0, 27, 0},
            {0, 0, 0, 0, 27 << 8, 0}, {0, 0, 0, 0, 27 << 16, 0}, {0, 0, 0, 0, 27 << 24, 0}, {0, 0, 0, 0, -1, 0},
            {0, 0, 0, 0, 0, 10}, {0, 0, 0, 0, 0, -2}, {0, Integer.MIN_VALUE, Integer.MAX_VALUE, 0, 0, 0},
            {0, Integer.MAX_VALUE, Integer.MIN_VALUE, 0, 0, 0}};
        for (int i = 0; i < bad.length; i++) {
            int[] b = bad[i];
            Check.is("bad stone " + i, x.stone(b[0], b[1], b[2], b[3], b[4], b[5]), NONE);
        }
        Check.is("none is there", x.letter(0, 0), NONE);
        Check.is("the first is 0", x.stone(0, 0, 0, 0, 0, 0), 0);
    }

    private static void letter() {
        OldStadium x = new OldStadium();
        x.stone(0, 0, 0, 0x01020003, 0x1a040005, 0);
        int[] due = {1, 2, 0, 3, 26, 4, 0, 5};
        for (int i = 0; i < due.length; i++) {
            Check.is("letter " + i, x.letter(0, i), due[i]);
        }
        Check.is("letter 8", x.letter(0, 8), NONE);
        Check.is("letter -1", x.letter(0, -1), NONE);
        Check.is("letter of 1", x.letter(1, 0), NONE);
        Check.is("letter of -1", x.letter(-1, 0), NONE);
    }

    private static void agreeByLetters() {
        for (int i = 0; i < 8; i++) {
            OldStadium x = new OldStadium();
            String worn = ".".repeat(i);
            add(x, 0, 0, 0, worn + "a", NONE);
            add(x, 1, 9, 9, worn + "b", NONE);
            add(x, 2, 0, 0, worn, NONE);
            add(x, 3, 0, 0, "abcdefgh".substring(0, i) + "a", NONE);
            Check.is("unlike at " + i, x.agree(0, 1), 0);
            Check.is("unlike at " + i + " the other way", x.agree(1, 0), 0);
            Check.is("worn away at " + i, x.agree(0, 2), 1);
            Check.is("alike at " + i, x.agree(3, 0), 1);
            Check.is("with itself", x.agree(1, 1), 1);
        }
    }

    private static void agreeByTowns() {
        OldStadium x = new OldStadium();
        add(x, 0, 0, 0, "a", 0);
        add(x, 0, 0, 0, "a", 1);
        add(x, 0, 0, 0, "a", NONE);
        add(x, 0, 0, 0, "a", 0);
        Check.is("unlike towns", x.agree(0, 1), 0);
        Check.is("no town", x.agree(0, 2), 1);
        Check.is("no town the other way", x.agree(2, 1), 1);
        Check.is("one town", x.agree(0, 3), 1);
        int[][] bad = {{-1, 0}, {0, -1}, {4, 0}, {0, 4}};
        for (int[] b : bad) {
            Check.is("agree of none", x.agree(b[0], b[1]), NONE);
        }
    }

    /** Two may both agree with a third one and not with each other. */
    private static void agreeIsOfTwo() {
        OldStadium x = new OldStadium();
        add(x, 0, 7, 7, "a", NONE);
        add(x, 0, 7, 7, "..", NONE);
        Check.is("two", x.rolls(), 1);
        add(x, 0, 7, 7, "b", NONE);
        Check.is("three", x.rolls(), 0);
    }

    private static void rollsOfOneEvent() {
        OldStadium x = new OldStadium();
        Check.is("of no stones one", x.rolls(), 1);
        add(x, 1, 10, 15, "a", NONE);
        Check.is("of one its years", x.rolls(), 6);
        add(x, 1, 13, 17, "b", NONE);
        Check.is("three years in common", x.rolls(), 27);
        add(x, 2, 13, 14, "c", NONE);
        Check.is("another event is free", x.rolls(), 54);
        add(x, 1, 13, 13, "a", NONE);
        Check.is("year 13 is of a", x.rolls(), 2 * (6 * 4 - 2));
    }

    private static void rollsOfJoined() {
        OldStadium x = new OldStadium();
        add(x, 0, 0, 5, "a", NONE);
        add(x, 1, 12, 17, "a", NONE);
        x.join(1, 0, true);
        Check.is("at most 12 apart", x.rolls(), 21);
        x.span(0);
        Check.is("not apart", x.rolls(), 0);
        x.span(7);
        Check.is("at most 7 apart", x.rolls(), 1);
        x.span(40);
        Check.is("any", x.rolls(), 36);
        add(x, 2, 3, 3, "b", NONE);
        x.join(0, 2, true);
        Check.is("joined, not agreeing", x.rolls(), 0);
        x.join(2, 0, false);
        Check.is("not joined any more", x.rolls(), 36);
    }

    private static void rollsOfAll() {
        OldStadium x = new OldStadium();
        for (int i = 0; i < 6; i++) {
            add(x, 0, 20, 25, "a", NONE);
        }
        Check.is("all agree", x.rolls(), 46656);
        x = new OldStadium();
        for (int i = 0; i < 6; i++) {
            add(x, 0, 20, 25, String.valueOf((char) ('a' + i)), NONE);
        }
        Check.is("none agree", x.rolls(), 720);
    }

    private static void join() {
        OldStadium x = new OldStadium();
        add(x, 0, 0, 0, "a", NONE);
        add(x, 0, 1, 1, "b", NONE);
        int[][] bad = {{0, 0}, {1, 1}, {-1, 0}, {0, -1}, {2, 0}, {0, 2}, {Integer.MAX_VALUE, Integer.MIN_VALUE}};
        for (int[] b : bad) {
            Check.is("join of none", x.join(b[0], b[1], true), false);
            Check.is("not joined of none", x.join(b[0], b[1], false), false);
        }
        Check.is("rolls as before", x.rolls(), 1);
        Check.is("not joined before", x.join(0, 1, false), true);
        Check.is("rolls as before still", x.rolls(), 1);
        Check.is("join", x.join(0, 1, true), true);
        Check.is("join again", x.join(1, 0, true), true);
        Check.is("no rolls", x.rolls(), 0);
        Check.is("part", x.join(1, 0, false), true);
        Check.is("rolls again", x.rolls(), 1);
    }

    private static void span() {
        OldStadium x = new OldStadium();
        Check.is("at first", x.span(0), 12);
        Check.is("span(-1)", x.span(-1), NONE);
        Check.is("span(41)", x.span(41), NONE);
        Check.is("it was 0", x.span(40), 0);
        Check.is("it was 40", x.span(40), 40);
    }

    private static void lose() {
        OldStadium x = new OldStadium();
        Check.is("lose of none", x.lose(0), NONE);
        for (int i = 0; i < 6; i++) {
            add(x, i % 4, i, i + 1, String.valueOf((char) ('a' + i)), i);
        }
        Check.is("lose(-1)", x.lose(-1), NONE);
        Check.is("lose(6)", x.lose(6), NONE);
        Check.is("lose(2)", x.lose(2), 5);
        int[] letters = {1, 2, 4, 5, 6};
        for (int i = 0; i < letters.length; i++) {
            Check.is("letter of " + i, x.letter(i, 0), letters[i]);
            Check.is("year of " + i, x.year(i, 0), letters[i] - 1);
            Check.is("last year of " + i, x.year(i, 1), letters[i]);
        }
        Check.is("none behind", x.letter(5, 0), NONE);
        Check.is("lose the last", x.lose(4), 4);
        Check.is("it is gone", x.agree(0, 4), NONE);
        Check.is("a new one", add(x, 0, 30, 30, "z", NONE), 4);
        Check.is("has its own letter", x.letter(4, 0), 26);
    }

    private static void loseKeepsJoins() {
        OldStadium x = new OldStadium();
        for (int i = 0; i < 6; i++) {
            add(x, i % 4, 4 * i, 4 * i + 5, "", NONE);
        }
        x.span(0);
        x.join(1, 2, true);
        x.join(4, 5, true);
        x.join(0, 3, true);
        Check.is("0 and 3 have no year in common", x.rolls(), 0);
        Check.is("lose(3)", x.lose(3), 5);
        Check.is("1 and 2, 3 and 4 have two each", x.rolls(), 6 * 2 * 2);
        Check.is("year of 3", x.year(3, 0), 20);
        Check.is("year of 1", x.year(1, 0), 8);
        Check.is("years of 0", x.year(0, 2), 6);
        add(x, 0, 39, 40, "", NONE);
        Check.is("a new one is joined with none", x.rolls(), 6 * 2 * 2 * 2);
        x.lose(0);
        Check.is("0 and 1, 2 and 3", x.rolls(), 2 * 2 * 2);
        Check.is("still joined", x.year(0, 1), 9);
    }

    private static void year() {
        OldStadium x = new OldStadium();
        Check.is("year of none", x.year(0, 0), NONE);
        add(x, 0, 3, 8, "a", NONE);
        add(x, 0, 5, 5, "b", NONE);
        add(x, 0, 3, 3, "c", NONE);
        add(x, 0, 8, 8, "d", NONE);
        int[] due = {4, 7, 3};
        for (int what = 0; what < due.length; what++) {
            Check.is("year(0, " + what + ")", x.year(0, what), due[what]);
            Check.is("year(1, " + what + ")", x.year(1, what), what == 2 ? 1 : 5);
        }
        Check.is("what 3", x.year(0, 3), NONE);
        Check.is("what -1", x.year(0, -1), NONE);
        Check.is("stone 4", x.year(4, 0), NONE);
        Check.is("stone -1", x.year(-1, 0), NONE);
        Check.is("wrong is asked between", x.wrong(), 0);
        Check.is("years stay", x.year(0, 2), 3);
        add(x, 0, 8, 8, "e", NONE);
        for (int what = 0; what < 3; what++) {
            Check.is("no rolls", x.year(0, what), NONE);
        }
        OldStadium y = new OldStadium();
        add(y, 0, 0, 0, "", NONE);
        Check.is("least year 0", y.year(0, 0), 0);
        Check.is("greatest year 0", y.year(0, 1), 0);
        add(y, 0, 35, 40, "", NONE);
        Check.is("greatest year 40", y.year(1, 1), 40);
        Check.is("six years", y.year(1, 2), 6);
    }

    private static void wrong() {
        OldStadium x = new OldStadium();
        Check.is("of none", x.wrong(), 0);
        add(x, 0, 7, 7, "a", NONE);
        Check.is("of one", x.wrong(), 0);
        add(x, 0, 7, 7, "b", NONE);
        Check.is("one of two: the less number", x.wrong(), 1);
        add(x, 0, 7, 7, "a", NONE);
        Check.is("b is against two", x.wrong(), 2);
        add(x, 0, 7, 7, "b", NONE);
        Check.is("two of four", x.wrong(), 0b0101);
        add(x, 0, 7, 7, "b", NONE);
        Check.is("the two of a", x.wrong(), 0b00101);
        add(x, 0, 7, 7, "c", NONE);
        Check.is("and that of c", x.wrong(), 0b100101);
        OldStadium y = new OldStadium();
        for (int i = 0; i < 6; i++) {
            add(y, 0, 7, 7, String.valueOf((char) ('a' + i)), NONE);
        }
        Check.is("all but the last", y.wrong(), 0b011111);
    }

    private static void wrongOfJoined() {
        OldStadium x = new OldStadium();
        add(x, 0, 0, 1, "a", NONE);
        add(x, 1, 20, 21, "a", NONE);
        add(x, 2, 10, 11, "a", NONE);
        x.join(0, 1, true);
        Check.is("too far apart", x.wrong(), 1);
        x.join(1, 2, true);
        Check.is("1 and 2 are near", x.wrong(), 1);
        x.span(5);
        Check.is("1 is far from both", x.wrong(), 2);
        x.join(0, 1, false);
        Check.is("of one pair the less", x.wrong(), 2);
        x.lose(1);
        Check.is("none joined", x.wrong(), 0);
    }
}
