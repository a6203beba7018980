import java.util.Arrays;
import java.util.function.Supplier;

/** Promises 1 to 11 and term 1: each sentence that names a boundary, by itself. */
public final class BoundsHeatsTest {
    private static final int NONE = OldStadium.NONE;
    private static final int MIN = Integer.MIN_VALUE;
    private static final int MAX = Integer.MAX_VALUE;
    private static final int[] NO_TOWNS = {-2, -1, 10, 11, MIN, MAX};

    public static void main(String[] args) {
        promise1();
        promises2And3();
        promise4();
        lots();
        rounds();
        byes();
        promises5And6();
        promise7();
        promise8();
        promise9();
        promise10();
        promise11();
        lastCall();
        Check.end();
    }

    // ---- states

    private static OldStadium runners(int many) {
        OldStadium x = new OldStadium();
        for (int i = 0; i < many; i++) {
            x.runner(i % 10);
        }
        return x;
    }

    private static OldStadium full() {
        OldStadium x = runners(24);
        for (int i = 0; i < 9; i++) {
            x.judge(i);
        }
        return x;
    }

    /** Seven runners in heats of three: two heats and a bye; heat 0 has a winner, both heats have votes. */
    private static OldStadium midway() {
        OldStadium x = runners(7);
        x.judge(9);
        x.judge(8);
        x.judge(0);
        x.contest(0, 3, 5);
        x.winner(0, x.lane(0, 1));
        x.vote(0, 0, x.lane(0, 2));
        x.vote(0, 1, x.lane(1, 2));
        x.vote(1, 1, x.lane(1, 1));
        return x;
    }

    /** Eight runners in heats of three: the last heat has two. */
    private static OldStadium shortHeat() {
        OldStadium x = runners(8);
        x.judge(9);
        x.contest(0, 3, 5);
        x.winner(0, x.lane(0, 1));
        x.vote(0, 2, x.lane(2, 1));
        return x;
    }

    private static OldStadium ended() {
        OldStadium x = runners(3);
        x.judge(9);
        x.contest(0, 3, 5);
        x.vote(0, 0, x.lane(0, 2));
        x.winner(0, x.lane(0, 1));
        x.next();
        return x;
    }

    /** In each heat the runner i of it, or the last one, wins. */
    private static void tellWinners(OldStadium x, int i) {
        for (int h = 0; h < x.count(3); h++) {
            int place = i;
            while (place > 0 && x.lane(h, place) == NONE) {
                place--;
            }
            Check.is("winner of heat " + h, x.winner(h, x.lane(h, place)), true);
        }
    }

    // ---- promise 1

    /** "No RUNNERS, JUDGES, CONTEST, FIVE, CHARIOTS, STONES." */
    private static void promise1() {
        OldStadium x = new OldStadium();
        Check.is("RUNNERS of a new object", x.count(0), 0);
        Check.is("JUDGES of a new object", x.count(1), 0);
        Check.is("ROUND of a new object", x.count(2), 0);
        Check.is("HEATS of a new object", x.count(3), 0);
        Check.is("BYE in a new object", x.count(4), NONE);
        Check.is("VICTOR of a new object", x.count(5), NONE);
        Check.is("open HEATS of a new object", x.count(7), 0);
        Check.is("FIVE of a new object", x.athlete(0, 0), NONE);
        Check.is("WON in a new object", x.won(), NONE);
        Check.is("CHARIOTS of a new object", x.at(0, 0), NONE);
        Check.is("track of a new object", x.run(0), NONE);
        Check.is("STONES of a new object", x.lose(0), NONE);
        Check.is("first RUNNER", x.runner(0), 0);
        Check.is("first JUDGE", x.judge(0), 0);
        Check.is("first STONE", x.stone(0, 0, 0, 0, 0, 0), 0);
    }

    // ---- promises 2 and 3

    private static void promises2And3() {
        runnerNumbers();
        runnerRefused();
        judgeNumbers();
        judgeRefused();
        townsAreKept();
    }

    /** "RUNNERS 0 .. (at most 24), each of a TOWN 0 .. 9"; "A RUNNER more: its number." */
    private static void runnerNumbers() {
        for (int town = 0; town < 10; town++) {
            Check.is("runner of town " + town, new OldStadium().runner(town), 0);
        }
        OldStadium x = new OldStadium();
        for (int i = 0; i < 24; i++) {
            Check.is("runner " + i, x.runner(9 - i % 10), i);
        }
        Check.is("all are there", x.count(0), 24);
    }

    /** "Refused: another TOWN, 24." */
    private static void runnerRefused() {
        for (int town : NO_TOWNS) {
            Refused.none("first runner of town " + town, OldStadium::new, x -> x.runner(town));
            Refused.none("runner of town " + town + " in a contest", BoundsHeatsTest::midway, x -> x.runner(town));
        }
        Refused.none("runner 24 of town 0", BoundsHeatsTest::full, x -> x.runner(0));
        Refused.none("runner 24 of town 9", BoundsHeatsTest::full, x -> x.runner(9));
        Refused.none("runner 24 of no town", BoundsHeatsTest::full, x -> x.runner(10));
    }

    /** "JUDGES 0 .. (at most 9), each of a TOWN"; "A JUDGE more: its number." */
    private static void judgeNumbers() {
        for (int town = 0; town < 10; town++) {
            Check.is("judge of town " + town, new OldStadium().judge(town), 0);
        }
        OldStadium x = new OldStadium();
        for (int i = 0; i < 9; i++) {
            Check.is("judge " + i, x.judge(9 - i), i);
        }
        Check.is("all judges are there", x.count(1), 9);
    }

    /** "Refused: another TOWN, 9." */
    private static void judgeRefused() {
        for (int town : NO_TOWNS) {
            Refused.none("first judge of town " + town, OldStadium::new, x -> x.judge(town));
            Refused.none("judge of town " + town + " in a contest", BoundsHeatsTest::midway, x -> x.judge(town));
        }
        Refused.none("judge 9 of town 0", BoundsHeatsTest::full, x -> x.judge(0));
        Refused.none("judge 9 of town 9", BoundsHeatsTest::full, x -> x.judge(9));
        Refused.none("judge 9 of no town", BoundsHeatsTest::full, x -> x.judge(-1));
    }

    /** Of each TOWN a judge votes beside runners of each TOWN: only that of an equal one does not count. */
    private static void townsAreKept() {
        for (int of = 0; of < 10; of++) {
            for (int town = 0; town < 10; town++) {
                OldStadium x = new OldStadium();
                x.runner((town + 5) % 10 == of ? town : (town + 5) % 10);
                x.runner(town);
                x.judge(of);
                x.contest(1, 0, 1);
                x.vote(0, 0, 1);
                Check.is("judge of " + of + " beside " + town, x.decide(0), of == town ? -2 : 1);
            }
        }
    }

    // ---- promise 4

    private static void promise4() {
        contestKinds();
        contestSizes();
        contestOfBouts();
        contestWithoutRunners();
        contestInPlaceOfAny();
        contestForgetsVotesAndWinners();
        heatsOfTheFirstRound();
    }

    /** "KIND 0 RACE", "KIND 1 BOUT"; "Refused: another KIND". */
    private static void contestKinds() {
        Check.is("kind 0", runners(6).contest(0, 3, 1), 2);
        Check.is("kind 1", runners(6).contest(1, 3, 1), 3);
        for (int kind : new int[] {-2, -1, 2, 3, MIN, MAX}) {
            Refused.none("kind " + kind, () -> runners(6), x -> x.contest(kind, 2, 1));
            Refused.none("kind " + kind + " in a contest", BoundsHeatsTest::midway, x -> x.contest(kind, 2, 1));
            Refused.none("kind " + kind + " behind the end", BoundsHeatsTest::ended, x -> x.contest(kind, 2, 1));
        }
    }

    /** "with heats of SIZE 2 .. 6"; "Refused: another .. SIZE". */
    private static void contestSizes() {
        int[] due = {12, 8, 6, 5, 4};
        for (int size = 2; size <= 6; size++) {
            OldStadium x = runners(24);
            Check.is("size " + size, x.contest(0, size, 1), due[size - 2]);
            Check.is("last lane of size " + size, x.lane(0, size - 1) != NONE, true);
            Check.is("no lane behind size " + size, x.lane(0, size), NONE);
        }
        for (int size : new int[] {1, 7, 0, -1, 8, MIN, MAX}) {
            Refused.none("size " + size, () -> runners(24), x -> x.contest(0, size, 1));
            Refused.none("size " + size + " in a contest", BoundsHeatsTest::midway, x -> x.contest(0, size, 1));
            Refused.none("size " + size + " behind the end", BoundsHeatsTest::ended, x -> x.contest(0, size, 1));
        }
    }

    /** "BOUT, of 2"; "(of 1 it doesn't matter)". */
    private static void contestOfBouts() {
        for (int size : new int[] {2, 6, 1, 7, 0, -1, MIN, MAX}) {
            OldStadium x = runners(5);
            Check.is("bouts, size " + size, x.contest(1, size, 1), 2);
            Check.is("two lanes, size " + size, x.lane(0, 1) != NONE, true);
            Check.is("no third lane, size " + size, x.lane(0, 2), NONE);
            Check.is("a bye, size " + size, x.count(4) != NONE, true);
        }
    }

    /** "Refused: .. no RUNNERS." */
    private static void contestWithoutRunners() {
        Refused.none("race without runners", OldStadium::new, x -> x.contest(0, 2, 1));
        Refused.none("bout without runners", OldStadium::new, x -> x.contest(1, 2, 1));
        Supplier<OldStadium> judges = () -> {
            OldStadium x = new OldStadium();
            x.judge(3);
            return x;
        };
        Refused.none("judges are no runners", judges, x -> x.contest(0, 2, 1));
        Check.is("one runner is enough", runners(1).contest(0, 2, 1), 0);
        Check.is("two runners", runners(2).contest(0, 2, 1), 1);
    }

    /** "A CONTEST begins (in place of any)". */
    private static void contestInPlaceOfAny() {
        String due = Probe.of(() -> {
            OldStadium x = runners(7);
            x.contest(1, 0, 99);
            return x;
        });
        String inMidst = Probe.of(() -> {
            OldStadium x = runners(7);
            x.contest(0, 2, 4);
            tellWinners(x, 0);
            x.next();
            x.winner(0, x.lane(0, 1));
            x.contest(1, 0, 99);
            return x;
        });
        String behind = Probe.of(() -> {
            OldStadium x = runners(7);
            x.contest(0, 2, 4);
            for (int round = 0; round < 3; round++) {
                tellWinners(x, 1);
                x.next();
            }
            Check.is("the former one is over", x.count(5) != NONE, true);
            x.contest(1, 0, 99);
            return x;
        });
        Check.is("in place of one that goes on", inMidst.equals(due), true);
        Check.is("in place of one that is over", behind.equals(due), true);
    }

    /** WINNERS and VOTES are of a ROUND: a new contest with the same HEATS has none. */
    private static void contestForgetsVotesAndWinners() {
        OldStadium x = runners(2);
        x.judge(9);
        x.contest(1, 0, 1);
        x.vote(0, 0, 1);
        x.winner(0, 1);
        x.contest(1, 0, 1);
        Check.is("no winner in a new contest", x.count(7), 1);
        Check.is("no vote in a new contest", x.decide(0), -2);
        Check.is("next waits", x.next(), NONE);
    }

    /**
     * "HEATS of its first ROUND"; "each SIZE of them, as they stand, are a HEAT (0, 1, ..), the last HEAT has what is
     * left; but if that is one alone, it is no HEAT, and has a BYE": all numbers of runners with all sizes.
     */
    private static void heatsOfTheFirstRound() {
        for (int many = 1; many <= 24; many++) {
            for (int size = 2; size <= 6; size++) {
                OldStadium x = runners(many);
                String of = " of " + many + " by " + size;
                int left = many % size;
                int heats = many / size + (left > 1 ? 1 : 0);
                Check.is("HEATS" + of, x.contest(0, size, 31 * many), heats);
                Check.is("count(3)" + of, x.count(3), heats);
                Check.is("count(7)" + of, x.count(7), heats);
                int[] row = new Draw(Draw.upTo(many), 31 * many).row;
                for (int i = 0; i < heats * size; i++) {
                    Check.is("place " + i + of, x.lane(i / size, i % size), i < many ? row[i] : NONE);
                }
                Check.is("BYE" + of, x.count(4), left == 1 ? row[many - 1] : NONE);
            }
        }
    }

    // ---- LOTS

    private static void lots() {
        rIsTheSeed();
        rWrapsAround();
        placesByUnsignedR();
        rGoesOn();
    }

    /** "R is the seed"; a row of one is not changed and takes no lot. */
    private static void rIsTheSeed() {
        for (int seed : new int[] {0, 1, -1, -2, MIN, MAX}) {
            OldStadium x = runners(1);
            Check.is("contest of one, seed " + seed, x.contest(0, 2, seed), 0);
            Check.is("R of seed " + seed, x.count(6), seed);
        }
    }

    /** "R = R * 1103515245 + 12345 (as ints)": one step of two, two of three, 23 of 24. */
    private static void rWrapsAround() {
        int[] seeds = {0, 1, -1, MAX, MIN, 65536};
        int[] two = {12345, 1103527590, -1103502900, 1043980748, -2147471303, 1315778617};
        int[] three = {-740551042, -1770082073, 288979989, -1858503659, 1406932606, 1850021502};
        int[] all = {1511588075, 1343201072, 1679975078, -467508570, -635895573, -128057109};
        for (int i = 0; i < seeds.length; i++) {
            OldStadium x = runners(2);
            x.contest(0, 2, seeds[i]);
            Check.is("R of two, seed " + seeds[i], x.count(6), two[i]);
            x = runners(3);
            x.contest(0, 2, seeds[i]);
            Check.is("R of three, seed " + seeds[i], x.count(6), three[i]);
            x = runners(24);
            x.contest(0, 2, seeds[i]);
            Check.is("R of 24, seed " + seeds[i], x.count(6), all[i]);
        }
    }

    /** "j = (R >>> 16) % (i + 1), places i and j are exchanged": of R below 0 too. */
    private static void placesByUnsignedR() {
        int[] seeds = {0, 1, -1, MAX, MIN};
        int[][] due = {{5, 3, 6, 4, 1, 2, 0}, {2, 1, 5, 4, 6, 0, 3}, {3, 0, 1, 4, 2, 6, 5}, {5, 3, 6, 2, 0, 1, 4},
            {5, 4, 2, 6, 3, 0, 1}};
        for (int s = 0; s < seeds.length; s++) {
            OldStadium x = runners(7);
            x.contest(0, 6, seeds[s]);
            for (int i = 0; i < 6; i++) {
                Check.is("place " + i + " of seed " + seeds[s], x.lane(0, i), due[s][i]);
            }
            Check.is("place 6 of seed " + seeds[s], x.count(4), due[s][6]);
        }
        int[] all = {4, 15, 3, 5, 12, 21, 23, 10, 20, 14, 22, 13, 2, 18, 7, 0, 19, 8, 11, 1, 6, 16, 9, 17};
        OldStadium x = runners(24);
        x.contest(0, 6, MAX);
        for (int i = 0; i < 24; i++) {
            Check.is("place " + i + " of 24", x.lane(i / 6, i % 6), all[i]);
        }
    }

    /** R is told by the seed once: the next round draws on; a refused next() or contest() draws nothing. */
    private static void rGoesOn() {
        OldStadium x = runners(6);
        x.contest(0, 2, 40);
        int r = new Draw(Draw.upTo(6), 40).r;
        Check.is("R of round 1", x.count(6), r);
        Check.is("next is refused", x.next(), NONE);
        Check.is("R of a refused next", x.count(6), r);
        Check.is("contest is refused", x.contest(2, 2, 41), NONE);
        Check.is("R of a refused contest", x.count(6), r);
        tellWinners(x, 0);
        int[] in = {x.lane(0, 0), x.lane(1, 0), x.lane(2, 0)};
        Arrays.sort(in);
        x.next();
        Check.is("R of round 2", x.count(6), new Draw(in, r).r);
        tellWinners(x, 0);
        r = x.count(6);
        x.next();
        Check.is("R of round 3, one step", x.count(6), r * 1103515245 + 12345);
        tellWinners(x, 0);
        r = x.count(6);
        Check.is("end", x.next(), 0);
        Check.is("R of the end", x.count(6), r);
    }

    // ---- rounds

    private static void rounds() {
        rowIsAscendingAhead();
        allRunnersByNumber();
        oneHeatAlone();
        oneHeatAndABye();
        oneRunnerWithABye();
        longestContest();
    }

    /** "the row of those who are in it (ascending) is MIXED". */
    private static void rowIsAscendingAhead() {
        for (int seed = 0; seed < 50; seed++) {
            OldStadium x = runners(16);
            x.contest(1, 0, seed);
            boolean[] in = new boolean[16];
            for (int h = 0; h < 8; h++) {
                in[x.lane(h, h % 2)] = true;
                x.winner(h, x.lane(h, h % 2));
            }
            int[] row = new int[8];
            int many = 0;
            for (int runner = 0; runner < 16; runner++) {
                if (in[runner]) {
                    row[many++] = runner;
                }
            }
            int r = x.count(6);
            Check.is("heats of eight", x.next(), 4);
            int[] due = new Draw(row, r).row;
            for (int i = 0; i < 8; i++) {
                Check.is("place " + i + " of round 2, seed " + seed, x.lane(i / 2, i % 2), due[i]);
            }
        }
    }

    /** "It begins with all RUNNERS, by number": those who came behind an earlier contest began too, none twice. */
    private static void allRunnersByNumber() {
        OldStadium x = runners(2);
        x.contest(0, 6, 9);
        x.runner(3);
        Check.is("one who comes later is in no heat", x.heat(2), NONE);
        Check.is("the heat has two", x.lane(0, 2), NONE);
        Check.is("count(0) has the later one", x.count(0), 3);
        Check.is("heats of the new contest", x.contest(0, 6, 9), 1);
        int[] due = new Draw(Draw.upTo(3), 9).row;
        for (int i = 0; i < 3; i++) {
            Check.is("place " + i + " of three", x.lane(0, i), due[i]);
        }
    }

    /** "if the ROUND was one HEAT alone .., its WINNER is the VICTOR, and the CONTEST is over". */
    private static void oneHeatAlone() {
        for (int many = 2; many <= 6; many++) {
            OldStadium x = runners(many);
            Check.is("one heat of " + many, x.contest(0, 6, many), 1);
            int last = x.lane(0, many - 1);
            x.winner(0, last);
            Check.is("no victor before next", x.count(5), NONE);
            Check.is("end of " + many, x.next(), 0);
            Check.is("victor of " + many, x.count(5), last);
            Check.is("the contest is over", x.heat(last), NONE);
        }
    }

    /** One HEAT and a BYE are no HEAT alone: "else the next ROUND begins with all WINNERS" ("one with a BYE is one"). */
    private static void oneHeatAndABye() {
        OldStadium x = runners(7);
        Check.is("six and one", x.contest(0, 6, 3), 1);
        int bye = x.count(4);
        int first = x.lane(0, 0);
        x.winner(0, first);
        Check.is("it goes on", x.next(), 1);
        Check.is("no victor yet", x.count(5), NONE);
        Check.is("who had the bye is in", x.heat(bye), 0);
        Check.is("who won is in", x.heat(first), 0);
        Check.is("nobody else", x.lane(0, 2), NONE);
        Check.is("round 2", x.count(2), 2);
        x.winner(0, bye);
        Check.is("one heat alone", x.next(), 0);
        Check.is("victor who had a bye", x.count(5), bye);
    }

    /** "(or one RUNNER with a BYE)". */
    private static void oneRunnerWithABye() {
        for (int kind = 0; kind < 2; kind++) {
            OldStadium x = runners(1);
            x.judge(3);
            Check.is("no heats of one", x.contest(kind, 2, -9), 0);
            Check.is("one has the bye", x.count(4), 0);
            Check.is("round 1 of one", x.count(2), 1);
            Check.is("no victor yet", x.count(5), NONE);
            Check.is("end of one", x.next(), 0);
            Check.is("victor of one", x.count(5), 0);
            Check.is("round stays", x.count(2), 1);
            Check.is("over", x.next(), NONE);
        }
    }

    /** 24 in bouts: 24, 12, 6, 3 (a bye), 2: five rounds. */
    private static void longestContest() {
        OldStadium x = full();
        int[] heats = {12, 6, 3, 1, 1, 0};
        Check.is("heats of round 1", x.contest(1, 0, MIN), heats[0]);
        for (int round = 1; round <= 5; round++) {
            Check.is("round", x.count(2), round);
            Check.is("bye of round " + round, x.count(4) != NONE, round == 4);
            tellWinners(x, 1);
            Check.is("heats behind round " + round, x.next(), heats[round]);
        }
        Check.is("victor", x.count(5) >= 0 && x.count(5) < 24, true);
    }

    // ---- byes

    private static void byes() {
        byesOfTheLaterRounds();
        byesOfFormerContests();
    }

    /**
     * "but if it had one ahead in this CONTEST, and another one of the ROUND had not, it changes places with the last
     * one in the row who had none (ahead of the HEATS being made)": tells apart the last place, the one just ahead of
     * it, one further on, and none such at all.
     */
    private static void byesOfTheLaterRounds() {
        int[] seen = new int[4];
        for (int seed = 0; seed < 400; seed++) {
            OldStadium x = runners(17);
            x.contest(1, 0, seed);
            boolean[] had = new boolean[17];
            had[x.count(4)] = true;
            for (int round = 2; round <= 4; round++) {
                for (int h = 0; h < x.count(3); h++) {
                    x.winner(h, x.lane(h, had[x.lane(h, 1)] ? 1 : 0));
                }
                seen[nextRound(x, had, "seed " + seed + " round " + round)]++;
                had[x.count(4)] = true;
            }
        }
        for (int i = 0; i < seen.length; i++) {
            Check.is("case " + i + " was seen", seen[i] > 5, true);
        }
    }

    /** Goes on to a round and compares it; tells which case it was. */
    private static int nextRound(OldStadium x, boolean[] had, String at) {
        boolean[] in = new boolean[17];
        in[x.count(4)] = true;
        int many = 1;
        for (int h = 0; h < x.count(3); h++, many++) {
            in[x.lane(h, had[x.lane(h, 1)] ? 1 : 0)] = true;
        }
        int[] row = new int[many];
        int place = 0;
        for (int runner = 0; runner < 17; runner++) {
            if (in[runner]) {
                row[place++] = runner;
            }
        }
        int r = x.count(6);
        Check.is(at + ": heats", x.next(), many / 2);
        row = new Draw(row, r).row;
        int end = many - 1;
        int other = end;
        while (other >= 0 && had[row[other]]) {
            other--;
        }
        if (other >= 0) {
            int there = row[end];
            row[end] = row[other];
            row[other] = there;
        }
        for (int i = 0; i < end; i++) {
            Check.is(at + ": place " + i, x.lane(i / 2, i % 2), row[i]);
        }
        Check.is(at + ": bye", x.count(4), row[end]);
        return other == end ? 0 : other == end - 1 ? 1 : other >= 0 ? 2 : 3;
    }

    /** "ahead in this CONTEST": a BYE of a former one is none. */
    private static void byesOfFormerContests() {
        for (int seed = 0; seed < 20; seed++) {
            OldStadium x = runners(5);
            x.contest(1, 0, seed);
            int bye = x.count(4);
            x.contest(1, 0, seed);
            Check.is("bye anew, seed " + seed, x.count(4), bye);
            tellWinners(x, 0);
            x.next();
            x.contest(1, 0, seed);
            Check.is("bye anew behind a round, seed " + seed, x.count(4), bye);
        }
    }

    // ---- promises 5 and 6

    private static void promises5And6() {
        heatOfAll();
        heatOfNone();
        laneOfAll();
        laneOfNone();
        askingChangesNothing();
    }

    /** "The HEAT in which a RUNNER is in this ROUND". */
    private static void heatOfAll() {
        OldStadium x = runners(24);
        x.contest(1, 0, 8);
        for (int h = 0; h < 12; h++) {
            Check.is("heat of the first of " + h, x.heat(x.lane(h, 0)), h);
            Check.is("heat of the second of " + h, x.heat(x.lane(h, 1)), h);
        }
        int out = x.lane(0, 1);
        int winner = x.lane(0, 0);
        tellWinners(x, 0);
        Check.is("a loser is in its heat until next", x.heat(out), 0);
        x.next();
        Check.is("who is out", x.heat(out), NONE);
        Check.is("who won", x.heat(winner) >= 0, true);
    }

    /** "NONE if it is not in it, has a BYE, or no CONTEST goes on." */
    private static void heatOfNone() {
        Check.is("heat without a contest", runners(3).heat(0), NONE);
        OldStadium x = runners(7);
        x.contest(0, 3, 2);
        for (int runner : new int[] {-1, 7, 23, 24, MIN, MAX}) {
            Check.is("heat of " + runner, x.heat(runner), NONE);
        }
        Check.is("heat of the one with the bye", x.heat(x.count(4)), NONE);
        Check.is("heat of NONE with a short heat", shortHeat().heat(NONE), NONE);
        OldStadium over = ended();
        for (int runner = -1; runner < 4; runner++) {
            Check.is("heat of " + runner + " behind the end", over.heat(runner), NONE);
        }
        OldStadium one = runners(1);
        one.contest(0, 2, 2);
        Check.is("heat of one alone", one.heat(0), NONE);
    }

    /** "RUNNER i of a HEAT (as they stand)": the last HEAT may be shorter. */
    private static void laneOfAll() {
        OldStadium x = runners(23);
        x.contest(0, 6, MIN);
        int[] row = new Draw(Draw.upTo(23), MIN).row;
        for (int i = 0; i < 23; i++) {
            Check.is("lane " + i, x.lane(i / 6, i % 6), row[i]);
        }
        Check.is("behind the last of the last heat", x.lane(3, 5), NONE);
    }

    /** "NONE for none such." */
    private static void laneOfNone() {
        Check.is("lane without a contest", runners(3).lane(0, 0), NONE);
        OldStadium x = runners(9);
        x.contest(0, 4, 2);
        for (int heat : new int[] {-1, 2, 3, MIN, MAX}) {
            Check.is("lane 0 of heat " + heat, x.lane(heat, 0), NONE);
        }
        for (int i : new int[] {-1, 4, 5, MIN, MAX}) {
            Check.is("lane " + i + " of heat 0", x.lane(0, i), NONE);
            Check.is("lane " + i + " of heat 1", x.lane(1, i), NONE);
        }
        Check.is("heat 1 ends with lane 3", x.lane(1, 3) != NONE, true);
        Check.is("one with a bye is in no lane", x.lane(2, 0), NONE);
    }

    private static void askingChangesNothing() {
        Supplier<OldStadium> state = BoundsHeatsTest::midway;
        Refused.changesNothing("heat(0)", state, x -> x.heat(0));
        Refused.changesNothing("heat(-1)", state, x -> x.heat(-1));
        Refused.changesNothing("lane(0, 0)", state, x -> x.lane(0, 0));
        Refused.changesNothing("lane(9, 9)", state, x -> x.lane(9, 9));
        for (int what = -1; what < 9; what++) {
            int asked = what;
            Refused.changesNothing("count(" + what + ")", state, x -> x.count(asked));
        }
    }

    // ---- promise 7

    private static void promise7() {
        countOfOthers();
        countInARound();
        countBehindTheEnd();
        openHeats();
    }

    /** "NONE for another what." */
    private static void countOfOthers() {
        for (int what : new int[] {-1, 8, 9, MIN, MAX}) {
            Check.is("count(" + what + ") of a new object", new OldStadium().count(what), NONE);
            Check.is("count(" + what + ") in a contest", midway().count(what), NONE);
            Check.is("count(" + what + ") behind the end", ended().count(what), NONE);
        }
    }

    /** "2: the ROUND (from 1 on; 0 without a CONTEST), 3: HEATS, 4: who has a BYE in it (NONE), 5: the VICTOR (NONE)". */
    private static void countInARound() {
        OldStadium x = runners(5);
        x.judge(1);
        int[] before = {5, 1, 0, 0, NONE, NONE};
        for (int what = 0; what < before.length; what++) {
            Check.is("count(" + what + ") without a contest", x.count(what), before[what]);
        }
        x.contest(1, 0, 1);
        int[] first = {5, 1, 1, 2, 3, NONE};
        for (int what = 0; what < first.length; what++) {
            Check.is("count(" + what + ") in round 1", x.count(what), first[what]);
        }
        tellWinners(x, 0);
        x.next();
        Check.is("round 2", x.count(2), 2);
        Check.is("one heat in round 2", x.count(3), 1);
        Check.is("another one's bye in round 2", x.count(4) != NONE && x.count(4) != 3, true);
        tellWinners(x, 0);
        x.next();
        Check.is("round 3", x.count(2), 3);
        Check.is("no bye in round 3", x.count(4), NONE);
    }

    /** "(3, 4, 7 behind the end: as in the last ROUND.)" */
    private static void countBehindTheEnd() {
        OldStadium x = ended();
        Check.is("heats behind the end", x.count(3), 1);
        Check.is("no bye behind the end", x.count(4), NONE);
        Check.is("no open heats behind the end", x.count(7), 0);
        OldStadium one = runners(1);
        one.contest(0, 2, 1);
        one.next();
        Check.is("no heats behind the end of one", one.count(3), 0);
        Check.is("the bye behind the end of one", one.count(4), 0);
        Check.is("no open heats behind the end of one", one.count(7), 0);
        one.contest(0, 2, 1);
        Check.is("the victor of a new contest", one.count(5), NONE);
    }

    /** "7: HEATS without a WINNER." */
    private static void openHeats() {
        OldStadium x = runners(24);
        x.contest(1, 0, 4);
        for (int h = 0; h < 12; h++) {
            Check.is("open ahead of heat " + h, x.count(7), 12 - h);
            x.winner(11 - h, x.lane(11 - h, 0));
            x.winner(11 - h, x.lane(11 - h, 1));
        }
        Check.is("none open", x.count(7), 0);
        x.next();
        Check.is("all open in the next round", x.count(7), 6);
    }

    // ---- promise 8

    /** "Refused: no CONTEST goes on, no such HEAT, a RUNNER that is not in it." */
    private static void promise8() {
        Refused.no("winner in a new object", OldStadium::new, x -> x.winner(0, 0));
        Refused.no("winner without a contest", () -> runners(4), x -> x.winner(0, 0));
        Refused.no("winner behind the end", BoundsHeatsTest::ended, x -> x.winner(0, x.lane(0, 0)));
        Supplier<OldStadium> state = BoundsHeatsTest::midway;
        for (int heat : new int[] {-1, 2, 3, 12, MIN, MAX}) {
            Refused.no("winner of heat " + heat, state, x -> x.winner(heat, x.lane(0, 0)));
        }
        for (int runner : new int[] {NONE, 7, 24, MIN, MAX}) {
            Refused.no("winner " + runner, state, x -> x.winner(0, runner));
            Refused.no("winner " + runner + " of heat 1", state, x -> x.winner(1, runner));
        }
        Refused.no("winner NONE of a short heat", BoundsHeatsTest::shortHeat, x -> x.winner(2, NONE));
        Refused.no("winner of another heat", state, x -> x.winner(0, x.lane(1, 0)));
        Refused.no("winner of another heat, the other way", state, x -> x.winner(1, x.lane(0, 0)));
        Refused.no("winner with a bye", state, x -> x.winner(1, x.count(4)));
        Refused.no("winner with a bye, as a heat behind", state, x -> x.winner(2, x.count(4)));
        winnerOfEachLane();
        winnerInAShortHeat();
    }

    /** "The WINNER of a HEAT is told (it may be told anew): true." */
    private static void winnerOfEachLane() {
        for (int i = 0; i < 6; i++) {
            OldStadium x = runners(12);
            x.contest(0, 6, 6);
            int first = x.lane(0, i);
            int second = x.lane(1, 5 - i);
            Check.is("winner of heat 0", x.winner(0, x.lane(0, 5 - i)), true);
            Check.is("winner of heat 0 anew", x.winner(0, first), true);
            Check.is("the same anew", x.winner(0, first), true);
            Check.is("winner of heat 1", x.winner(1, second), true);
            Check.is("next", x.next(), 1);
            Check.is("the told ones are in", 1 << x.lane(0, 0) | 1 << x.lane(0, 1), 1 << first | 1 << second);
        }
    }

    /** In a round that is shorter than SIZE nobody of a former round is in. */
    private static void winnerInAShortHeat() {
        OldStadium x = runners(12);
        x.contest(0, 6, 6);
        int[] losers = {x.lane(0, 2), x.lane(1, 5)};
        tellWinners(x, 0);
        x.next();
        Check.is("a heat of two", x.lane(0, 2), NONE);
        for (int loser : losers) {
            Check.is("who is out can't win", x.winner(0, loser), false);
        }
        Check.is("the heat is open", x.count(7), 1);
    }

    // ---- promise 9

    private static void promise9() {
        voteRefused();
        votesOfAll();
        latestVote();
        votesBesideTowns();
        votesAreOfARound();
        voteWhenDecided();
    }

    /** "Refused: no such JUDGE, or as winner()." */
    private static void voteRefused() {
        Refused.no("vote in a new object", OldStadium::new, x -> x.vote(0, 0, 0));
        Refused.no("vote without a contest", BoundsHeatsTest::full, x -> x.vote(0, 0, 0));
        Refused.no("vote behind the end", BoundsHeatsTest::ended, x -> x.vote(0, 0, x.lane(0, 0)));
        Refused.no("vote without judges", () -> {
            OldStadium x = runners(2);
            x.contest(1, 0, 1);
            return x;
        }, x -> x.vote(0, 0, 0));
        Supplier<OldStadium> state = BoundsHeatsTest::midway;
        for (int judge : new int[] {-1, 3, 8, 9, MIN, MAX}) {
            Refused.no("vote of judge " + judge, state, x -> x.vote(judge, 1, x.lane(1, 0)));
        }
        for (int heat : new int[] {-1, 2, 12, MIN, MAX}) {
            Refused.no("vote in heat " + heat, state, x -> x.vote(0, heat, x.lane(1, 0)));
        }
        for (int runner : new int[] {NONE, 7, 24, MIN, MAX}) {
            Refused.no("vote for " + runner, state, x -> x.vote(0, 1, runner));
        }
        Refused.no("vote for NONE in a short heat", BoundsHeatsTest::shortHeat, x -> x.vote(0, 2, NONE));
        Refused.no("vote for who was in its lane", BoundsHeatsTest::shortHeat, x -> x.vote(0, 2, x.lane(1, 2)));
        Refused.no("vote for one of another heat", state, x -> x.vote(0, 1, x.lane(0, 0)));
        Refused.no("vote for the one with the bye", state, x -> x.vote(0, 1, x.count(4)));
        Refused.no("vote for the one with the bye, as a heat behind", state, x -> x.vote(0, 2, x.count(4)));
    }

    /** Each of nine JUDGES has a VOTE in each of twelve HEATS. */
    private static void votesOfAll() {
        OldStadium x = new OldStadium();
        for (int i = 0; i < 24; i++) {
            x.runner(0);
        }
        for (int j = 0; j < 9; j++) {
            x.judge(1 + j % 9);
        }
        x.contest(1, 0, 3);
        for (int h = 0; h < 12; h++) {
            for (int j = 0; j < 9; j++) {
                Check.is("vote of " + j + " in " + h, x.vote(j, h, x.lane(h, (j + h) % 2)), true);
            }
        }
        for (int h = 0; h < 12; h++) {
            Check.is("five to four in " + h, x.decide(h), x.lane(h, h % 2));
        }
    }

    /** "(its latest one counts)". */
    private static void latestVote() {
        OldStadium x = runners(3);
        x.judge(9);
        x.contest(0, 3, 1);
        for (int i = 0; i < 7; i++) {
            x.vote(0, 0, i % 3);
            Check.is("vote " + i, x.decide(0), i % 3);
        }
        x.vote(0, 0, 0);
        x.vote(0, 0, 0);
        x.judge(8);
        x.vote(1, 0, 1);
        Check.is("told twice it is still one", x.decide(0), -2);
        Check.is("a refused one is not its latest", x.vote(1, 0, 3), false);
        Check.is("its latest stays", x.decide(0), -2);
    }

    /** "it does not count if some RUNNER of the HEAT is of the JUDGE's TOWN": first or last, voted for or not. */
    private static void votesBesideTowns() {
        for (int town = 0; town < 10; town++) {
            OldStadium x = runners(6);
            x.judge(town);
            x.contest(0, 6, 2);
            for (int runner = 0; runner < 6; runner++) {
                Check.is("a vote is taken", x.vote(0, 0, runner), true);
                Check.is("judge of town " + town + " for " + runner, x.decide(0), town < 6 ? -2 : runner);
            }
        }
        OldStadium two = runners(4);
        two.judge(0);
        two.contest(1, 0, 3);
        int own = two.heat(0);
        two.vote(0, own, two.lane(own, 0));
        two.vote(0, 1 - own, two.lane(1 - own, 0));
        Check.is("not in the heat of its town", two.decide(own), -2);
        Check.is("in the other one", two.decide(1 - own), two.lane(1 - own, 0));
        OldStadium bye = runners(3);
        int with = byeOf(bye, 5);
        bye.judge(with);
        bye.vote(0, 0, bye.lane(0, 1));
        Check.is("one with a bye is in no heat", bye.decide(0), bye.lane(0, 1));
    }

    private static int byeOf(OldStadium x, int seed) {
        x.contest(1, 0, seed);
        return x.count(4);
    }

    /** "for a RUNNER of a HEAT of this ROUND". */
    private static void votesAreOfARound() {
        OldStadium x = runners(3);
        x.judge(9);
        x.contest(1, 0, 3);
        int winner = x.lane(0, 1);
        x.vote(0, 0, winner);
        x.winner(0, winner);
        x.next();
        Check.is("it is in heat 0 again", x.heat(winner), 0);
        Check.is("a vote of the last round", x.decide(0), -2);
    }

    /** A VOTE is no decision, and it may come behind one. */
    private static void voteWhenDecided() {
        OldStadium x = runners(2);
        x.judge(9);
        x.contest(1, 0, 3);
        x.winner(0, 0);
        Check.is("vote when there is a winner", x.vote(0, 0, 1), true);
        x.next();
        Check.is("the winner stays without decide", x.count(5), 0);
        x.contest(1, 0, 3);
        x.vote(0, 0, 1);
        Check.is("votes alone tell no winner", x.next(), NONE);
        Check.is("the heat is open", x.count(7), 1);
    }

    // ---- promise 10

    private static void promise10() {
        decideRefused();
        moreThanHalf();
        onlyVotesThatCount();
        nothingChanges();
        decideAnew();
    }

    /** "NONE: no CONTEST goes on, no such HEAT" ("NONE is asked ahead of other answers below 0"). */
    private static void decideRefused() {
        Refused.none("decide in a new object", OldStadium::new, x -> x.decide(0));
        Refused.none("decide without a contest", BoundsHeatsTest::full, x -> x.decide(0));
        Refused.none("decide behind the end", BoundsHeatsTest::ended, x -> x.decide(0));
        for (int heat : new int[] {-1, 2, 3, 12, MIN, MAX}) {
            Refused.none("decide heat " + heat, BoundsHeatsTest::midway, x -> x.decide(heat));
        }
        Refused.none("decide of one alone", () -> {
            OldStadium x = runners(1);
            x.contest(0, 2, 1);
            return x;
        }, x -> x.decide(0));
    }

    /** "who has more than half of all VOTES that count": of each number of judges, one less and just enough. */
    private static void moreThanHalf() {
        for (int judges = 1; judges <= 9; judges++) {
            for (int votes = 0; votes <= judges; votes++) {
                OldStadium x = new OldStadium();
                for (int i = 0; i < 3; i++) {
                    x.runner(0);
                }
                x.contest(0, 3, 1);
                for (int j = 0; j < judges; j++) {
                    x.judge(1 + j);
                    x.vote(j, 0, j < votes ? 0 : 1 + j % 2);
                }
                int[] all = {votes, 0, 0};
                for (int j = votes; j < judges; j++) {
                    all[1 + j % 2]++;
                }
                int due = -2;
                for (int i = 0; i < 3; i++) {
                    due = all[i] * 2 >= judges + 1 ? i : due;
                }
                Check.is(votes + " of " + judges, x.decide(0), due);
            }
        }
        OldStadium none = runners(2);
        none.contest(1, 0, 1);
        Check.is("without any votes", none.decide(0), -2);
    }

    /** Eight votes of the towns of the heat weigh nothing against one. */
    private static void onlyVotesThatCount() {
        OldStadium x = runners(2);
        x.contest(1, 0, 1);
        for (int j = 0; j < 8; j++) {
            x.judge(j % 2);
            x.vote(j, 0, 0);
        }
        Check.is("none counts", x.decide(0), -2);
        x.judge(2);
        Check.is("a judge without a vote", x.decide(0), -2);
        x.vote(8, 0, 1);
        Check.is("one counts", x.decide(0), 1);
    }

    /** "-2: none has (nothing changes)". */
    private static void nothingChanges() {
        Supplier<OldStadium> told = () -> {
            OldStadium x = runners(4);
            x.contest(1, 0, 3);
            x.judge(8);
            x.judge(9);
            x.vote(0, 0, x.lane(0, 0));
            x.vote(1, 0, x.lane(0, 1));
            x.winner(0, x.lane(0, 1));
            return x;
        };
        Check.is("one each", told.get().decide(0), -2);
        Check.is("no votes", told.get().decide(1), -2);
        Refused.changesNothing("decide of one each", told, x -> x.decide(0));
        Refused.changesNothing("decide without votes", told, x -> x.decide(1));
    }

    /** "The WINNER of a HEAT is now ..": in place of one told, or decided, and until it is told anew. */
    private static void decideAnew() {
        OldStadium x = runners(2);
        x.judge(9);
        x.contest(1, 0, 3);
        x.winner(0, 0);
        x.vote(0, 0, 1);
        Check.is("decided in place of a told one", x.decide(0), 1);
        Check.is("no heat is open", x.count(7), 0);
        x.next();
        Check.is("victor decided", x.count(5), 1);
        x.contest(1, 0, 3);
        x.vote(0, 0, 1);
        Check.is("decided", x.decide(0), 1);
        Check.is("the decided heat is not open", x.count(7), 0);
        x.winner(0, 0);
        x.next();
        Check.is("told in place of a decided one", x.count(5), 0);
    }

    // ---- promise 11

    /** "Refused: no CONTEST goes on, a HEAT has no WINNER." */
    private static void promise11() {
        Refused.none("next in a new object", OldStadium::new, OldStadium::next);
        Refused.none("next without a contest", BoundsHeatsTest::full, OldStadium::next);
        Refused.none("next behind the end", BoundsHeatsTest::ended, OldStadium::next);
        Refused.none("next with a heat open", BoundsHeatsTest::midway, OldStadium::next);
        for (int open = 0; open < 3; open++) {
            int without = open;
            Refused.none("next without a winner of " + open, () -> {
                OldStadium x = runners(6);
                x.contest(1, 0, 3);
                for (int h = 0; h < 3; h++) {
                    if (h != without) {
                        x.winner(h, x.lane(h, 0));
                    }
                }
                return x;
            }, OldStadium::next);
        }
        endChangesNothingElse();
    }

    /** "0 at the end": RUNNERS and JUDGES stay for the next contest, and may come. */
    private static void endChangesNothingElse() {
        OldStadium x = ended();
        Check.is("runners stay", x.count(0), 3);
        Check.is("judges stay", x.count(1), 1);
        Check.is("a runner comes behind the end", x.runner(1), 3);
        Check.is("a judge comes behind the end", x.judge(1), 1);
        Check.is("the victor stays", x.count(5) != NONE, true);
        Check.is("another contest", x.contest(1, 0, 1), 2);
    }

    // ---- "An object is used for at most 512 calls"

    private static void lastCall() {
        OldStadium x = new OldStadium();
        x.runner(0);
        x.runner(1);
        for (int i = 0; i < 254; i++) {
            x.contest(1, 0, i);
            x.count(6);
        }
        Check.is("call 511", x.contest(1, 0, MIN), 1);
        Check.is("call 512", x.count(6), -2147471303);
    }
}
