import java.util.ArrayList;
import java.util.List;
import java.util.Random;

/** Promises 21 to 29: many heaps of stones, against a trial of all years of each. */
public final class StonesModelTest {
    private static final class Stone {
        int event;
        int a;
        int b;
        final int[] name = new int[8];
        int town;
        final List<Stone> joined = new ArrayList<>();
    }

    private static final List<Stone> stones = new ArrayList<>();
    private static int span = 12;
    private static Random lots;
    private static OldStadium x;

    public static void main(String[] args) {
        int none = 0;
        for (int run = 0; run < 500; run++) {
            lots = new Random(run);
            x = new OldStadium();
            stones.clear();
            span = 12;
            boolean narrow = run % 2 == 0;
            for (int call = 0; call < 40; call++) {
                oneCall(narrow);
                none += compare("run " + run + " call " + call + ": ");
            }
        }
        Check.is("often there are no rolls", none > 2000 && none < 18000, true);
        Check.end();
    }

    private static void oneCall(boolean narrow) {
        int many = stones.size();
        switch (lots.nextInt(8)) {
            case 0, 1, 2:
                addStone(narrow);
                break;
            case 3, 4, 5:
                int a = lots.nextInt(7);
                int b = lots.nextInt(7);
                boolean are = lots.nextInt(3) > 0;
                Check.is("join", x.join(a, b, are), a < many && b < many && a != b);
                if (a < many && b < many && a != b) {
                    setJoined(stones.get(a), stones.get(b), are);
                }
                break;
            case 6:
                int v = lots.nextInt(narrow ? 4 : 41);
                Check.is("span", x.span(v), span);
                span = v;
                break;
            default:
                int s = lots.nextInt(7);
                if (many > 3 || lots.nextInt(4) == 0) {
                    lose(s);
                }
        }
    }

    private static void setJoined(Stone a, Stone b, boolean are) {
        a.joined.remove(b);
        b.joined.remove(a);
        if (are) {
            a.joined.add(b);
            b.joined.add(a);
        }
    }

    private static void lose(int s) {
        boolean there = s < stones.size();
        Check.is("lose", x.lose(s), there ? stones.size() - 1 : -1);
        if (there) {
            Stone gone = stones.remove(s);
            stones.forEach(t -> t.joined.remove(gone));
        }
    }

    private static void addStone(boolean narrow) {
        Stone s = new Stone();
        s.event = lots.nextInt(narrow ? 2 : 4);
        s.a = narrow ? 10 + lots.nextInt(4) : lots.nextInt(36);
        s.b = s.a + lots.nextInt(narrow ? 4 : 6);
        for (int i = 0; i < 8; i++) {
            s.name[i] = lots.nextInt(10) == 0 ? 1 + lots.nextInt(2) : 0;
        }
        s.town = lots.nextInt(3) - 1;
        int first = 0;
        int last = 0;
        for (int i = 0; i < 4; i++) {
            first += s.name[i] << 24 - 8 * i;
            last += s.name[4 + i] << 24 - 8 * i;
        }
        Check.is("stone", x.stone(s.event, s.a, s.b, first, last, s.town), stones.size() < 6 ? stones.size() : -1);
        if (stones.size() < 6) {
            stones.add(s);
        }
    }

    private static boolean agree(Stone a, Stone b) {
        boolean alike = a.town < 0 || b.town < 0 || a.town == b.town;
        for (int i = 0; i < 8; i++) {
            alike &= a.name[i] * b.name[i] == 0 || a.name[i] == b.name[i];
        }
        return alike;
    }

    private static boolean good(int[] years, int off) {
        for (int i = 0; i < years.length; i++) {
            for (int j = 0; j < i; j++) {
                if ((off >> i & 1) == 1 || (off >> j & 1) == 1) {
                    continue;
                }
                Stone a = stones.get(i);
                Stone b = stones.get(j);
                boolean meet = a.event == b.event && years[i] == years[j];
                boolean joined = a.joined.contains(b);
                if ((meet || joined) && !agree(a, b) || joined && Math.abs(years[i] - years[j]) > span) {
                    return false;
                }
            }
        }
        return true;
    }

    /** Tries every year of each stone that is not left off; tells how many are good, and their years as bits. */
    private static int tryAll(int off, long[] seen) {
        int[] years = new int[stones.size()];
        for (int i = 0; i < years.length; i++) {
            years[i] = stones.get(i).a;
        }
        int found = 0;
        while (true) {
            if (good(years, off)) {
                found++;
                for (int i = 0; i < years.length; i++) {
                    seen[i] |= 1L << years[i];
                }
            }
            int i = 0;
            while (i < years.length && ((off >> i & 1) == 1 || years[i] == stones.get(i).b)) {
                years[i] = stones.get(i).a;
                i++;
            }
            if (i == years.length) {
                return found;
            }
            years[i]++;
        }
    }

    private static int fewest() {
        int best = (1 << stones.size()) - 1;
        for (int off = 0; off < 1 << stones.size(); off++) {
            if (Integer.bitCount(off) < Integer.bitCount(best) && tryAll(off, new long[6]) > 0) {
                best = off;
            }
        }
        return best;
    }

    private static int compare(String at) {
        long[] seen = new long[6];
        int rolls = tryAll(0, seen);
        boolean wrongFirst = lots.nextBoolean();
        if (wrongFirst && lots.nextInt(4) == 0) {
            Check.is(at + "wrong", x.wrong(), fewest());
        }
        Check.is(at + "rolls", x.rolls(), rolls);
        for (int i = 0; i < stones.size(); i++) {
            long bits = seen[i];
            Check.is(at + "least year of " + i, x.year(i, 0), rolls == 0 ? -1 : Long.numberOfTrailingZeros(bits));
            Check.is(at + "greatest year of " + i, x.year(i, 1), rolls == 0 ? -1 : 63 - Long.numberOfLeadingZeros(bits));
            Check.is(at + "years of " + i, x.year(i, 2), rolls == 0 ? -1 : Long.bitCount(bits));
            for (int j = 0; j < stones.size(); j++) {
                Check.is(at + "agree", x.agree(i, j), agree(stones.get(i), stones.get(j)) ? 1 : 0);
            }
            int place = lots.nextInt(8);
            Check.is(at + "letter", x.letter(i, place), stones.get(i).name[place]);
        }
        if (!wrongFirst && lots.nextInt(4) == 0) {
            Check.is(at + "wrong", x.wrong(), rolls > 0 ? 0 : fewest());
        }
        return rolls == 0 ? 1 : 0;
    }
}
