/** Promises 1 to 11: runners, judges, heats, votes. */
public final class HeatsTest {
    private static final int NONE = OldStadium.NONE;

    public static void main(String[] args) {
        newObject();
        runner();
        judge();
        contest();
        contestRefused();
        contestAnew();
        heatAndLane();
        countBehindTheEnd();
        countOfR();
        winner();
        vote();
        voteOfOwnTown();
        votesPerHeat();
        votesOfARound();
        decide();
        decideByMoreThanHalf();
        next();
        oneAlone();
        byesAreShared();
        byeAgainWhenAllHadOne();
        runnersWhoComeLater();
        Check.end();
    }

    private static OldStadium withRunners(int many) {
        OldStadium x = new OldStadium();
        for (int i = 0; i < many; i++) {
            x.runner(i % 10);
        }
        return x;
    }

    private static void newObject() {
        OldStadium x = new OldStadium();
        int[] due = {0, 0, 0, 0, NONE, NONE, 0, 0};
        for (int what = 0; what < due.length; what++) {
            Check.is("new count(" + what + ")", x.count(what), due[what]);
        }
        Check.is("new heat", x.heat(0), NONE);
        Check.is("new lane", x.lane(0, 0), NONE);
        Check.is("new winner", x.winner(0, 0), false);
        Check.is("new vote", x.vote(0, 0, 0), false);
        Check.is("new decide", x.decide(0), NONE);
        Check.is("new next", x.next(), NONE);
        Check.is("new contest", x.contest(0, 2, 1), NONE);
        Check.is("new won", x.won(), NONE);
        Check.is("new event", x.event(0), NONE);
        Check.is("new athlete", x.athlete(0, 0), NONE);
        Check.is("new run", x.run(0), NONE);
        Check.is("new at", x.at(0, 0), NONE);
        Check.is("new chariot", x.chariot(0, 0), NONE);
        Check.is("new drive", x.drive(0, 0, 0), NONE);
        Check.is("new rolls", x.rolls(), 1);
        Check.is("new wrong", x.wrong(), 0);
        Check.is("new year", x.year(0, 0), NONE);
        Check.is("new agree", x.agree(0, 0), NONE);
        Check.is("new letter", x.letter(0, 0), NONE);
        Check.is("new lose", x.lose(0), NONE);
        Check.is("new join", x.join(0, 1, true), false);
        Check.is("new span", x.span(12), 12);
    }

    private static void runner() {
        OldStadium x = new OldStadium();
        Check.is("runner(-1)", x.runner(-1), NONE);
        Check.is("runner(10)", x.runner(10), NONE);
        for (int i = 0; i < 24; i++) {
            Check.is("runner " + i, x.runner(i % 10), i);
            Check.is("count(0) of " + i, x.count(0), i + 1);
        }
        Check.is("runner 24", x.runner(0), NONE);
        Check.is("count(0) full", x.count(0), 24);
    }

    private static void judge() {
        OldStadium x = new OldStadium();
        Check.is("judge(-1)", x.judge(-1), NONE);
        Check.is("judge(10)", x.judge(10), NONE);
        for (int i = 0; i < 9; i++) {
            Check.is("judge " + i, x.judge(9 - i), i);
            Check.is("count(1) of " + i, x.count(1), i + 1);
        }
        Check.is("judge 9", x.judge(0), NONE);
        Check.is("count(1) full", x.count(1), 9);
        Check.is("count(0) of judges", x.count(0), 0);
    }

    private static void contest() {
        int[][] due = {{24, 2, 12}, {24, 6, 4}, {24, 5, 5}, {13, 6, 2}, {13, 5, 3}, {14, 6, 3}, {2, 6, 1}, {1, 6, 0}};
        for (int[] d : due) {
            OldStadium x = withRunners(d[0]);
            String of = d[0] + " runners, size " + d[1];
            Check.is("contest of " + of, x.contest(0, d[1], 11), d[2]);
            Check.is("heats of " + of, x.count(3), d[2]);
            Check.is("open heats of " + of, x.count(7), d[2]);
            Check.is("round of " + of, x.count(2), 1);
            Check.is("bye of " + of, x.count(4) != NONE, d[0] % d[1] == 1);
            Check.is("victor of " + of, x.count(5), NONE);
        }
        OldStadium bout = withRunners(9);
        Check.is("bout of any size", bout.contest(1, -77, 11), 4);
        Check.is("bout lane 1", bout.lane(0, 1) != NONE, true);
        Check.is("bout lane 2", bout.lane(0, 2), NONE);
    }

    private static void contestRefused() {
        OldStadium x = withRunners(5);
        int[][] bad = {{-1, 3}, {2, 3}, {0, 1}, {0, 7}, {0, 0}, {0, -3}, {Integer.MIN_VALUE, 2}};
        for (int[] b : bad) {
            Check.is("contest(" + b[0] + ", " + b[1] + ")", x.contest(b[0], b[1], 3), NONE);
            Check.is("no contest begins", x.count(2), 0);
        }
        x.contest(0, 2, 3);
        int r = x.count(6);
        for (int[] b : bad) {
            Check.is("contest(" + b[0] + ", " + b[1] + ") later", x.contest(b[0], b[1], 4), NONE);
        }
        Check.is("the contest goes on", x.count(6), r);
        Check.is("its round goes on", x.winner(0, x.lane(0, 0)), true);
    }

    private static void contestAnew() {
        OldStadium x = withRunners(3);
        x.contest(0, 2, 7);
        int bye = x.count(4);
        int r = x.count(6);
        x.winner(0, x.lane(0, 0));
        Check.is("second round", x.next(), 1);
        Check.is("contest anew", x.contest(0, 2, 7), 1);
        Check.is("round of the new one", x.count(2), 1);
        Check.is("the same seed draws the same", x.count(4), bye);
        Check.is("the same seed leaves the same R", x.count(6), r);
        Check.is("no winner yet", x.count(7), 1);
        x.winner(0, x.lane(0, 0));
        x.next();
        x.winner(0, x.lane(0, 0));
        x.next();
        Check.is("victor is told", x.count(5) != NONE, true);
        x.contest(0, 3, 1);
        Check.is("victor of a new contest", x.count(5), NONE);
    }

    private static void heatAndLane() {
        OldStadium x = withRunners(10);
        x.contest(0, 3, 5);
        int seen = 0;
        for (int h = 0; h < 3; h++) {
            for (int i = 0; i < 3; i++) {
                int runner = x.lane(h, i);
                seen |= 1 << runner;
                Check.is("heat of lane " + h + " " + i, x.heat(runner), h);
            }
            Check.is("lane 3 of " + h, x.lane(h, 3), NONE);
            Check.is("lane -1 of " + h, x.lane(h, -1), NONE);
        }
        Check.is("heat of the bye", x.heat(x.count(4)), NONE);
        Check.is("all are drawn", seen | 1 << x.count(4), 1023);
        Check.is("lane of heat -1", x.lane(-1, 0), NONE);
        Check.is("lane of heat 3", x.lane(3, 0), NONE);
        Check.is("lane of no such numbers", x.lane(Integer.MAX_VALUE, Integer.MIN_VALUE), NONE);
        Check.is("heat(-1)", x.heat(-1), NONE);
        Check.is("heat(10)", x.heat(10), NONE);
        int out = x.lane(0, 1);
        x.winner(0, x.lane(0, 0));
        x.winner(1, x.lane(1, 0));
        x.winner(2, x.lane(2, 0));
        x.next();
        Check.is("heat of one who is out", x.heat(out), NONE);
    }

    private static void countBehindTheEnd() {
        OldStadium x = withRunners(4);
        Check.is("contest", x.contest(0, 4, 9), 1);
        int last = x.lane(0, 3);
        x.winner(0, last);
        Check.is("end", x.next(), 0);
        int[] due = {4, 0, 1, 1, NONE, last, x.count(6), 0};
        for (int what = 0; what < due.length; what++) {
            Check.is("count(" + what + ") behind the end", x.count(what), due[what]);
        }
        Check.is("count(8)", x.count(8), NONE);
        Check.is("count(-1)", x.count(-1), NONE);
        Check.is("heat behind the end", x.heat(last), NONE);
        Check.is("lane behind the end", x.lane(0, 3), last);
        Check.is("winner behind the end", x.winner(0, last), false);
        x.judge(0);
        Check.is("vote behind the end", x.vote(0, 0, last), false);
        Check.is("decide behind the end", x.decide(0), NONE);
        Check.is("next behind the end", x.next(), NONE);
    }

    /** Of two runners one step is drawn, of one none. */
    private static void countOfR() {
        OldStadium one = withRunners(1);
        one.contest(0, 2, -5);
        Check.is("R of one", one.count(6), -5);
        OldStadium two = withRunners(2);
        two.contest(1, 0, 1);
        Check.is("R of two", two.count(6), 1103527590);
        Check.is("16838 is even: place 0 goes last", two.lane(0, 0), 1);
        two.contest(1, 0, 0);
        Check.is("R of seed 0", two.count(6), 12345);
        Check.is("0 is even: place 0 goes last", two.lane(0, 1), 0);
        two.contest(1, 0, 1 << 16);
        int r = (1 << 16) * 1103515245 + 12345;
        Check.is("R of seed 65536", two.count(6), r);
        Check.is("an odd one changes nothing", two.lane(0, 0), (r >>> 16) % 2 == 1 ? 0 : 1);
    }

    private static void winner() {
        OldStadium x = withRunners(4);
        Check.is("winner without a contest", x.winner(0, 0), false);
        x.contest(1, 0, 3);
        int a = x.lane(0, 0);
        int b = x.lane(0, 1);
        Check.is("winner of another heat", x.winner(1, a), false);
        Check.is("winner of heat 2", x.winner(2, a), false);
        Check.is("winner of heat -1", x.winner(-1, a), false);
        Check.is("winner NONE", x.winner(0, NONE), false);
        Check.is("winner 4", x.winner(0, 4), false);
        Check.is("no winner yet", x.count(7), 2);
        Check.is("winner", x.winner(0, a), true);
        Check.is("one open", x.count(7), 1);
        Check.is("winner anew", x.winner(0, b), true);
        Check.is("one open still", x.count(7), 1);
        x.winner(1, x.lane(1, 0));
        x.next();
        Check.is("the later one goes on", x.heat(b), 0);
        Check.is("the former one does not", x.heat(a), NONE);
        OldStadium y = withRunners(3);
        y.contest(1, 0, 3);
        Check.is("winner who has a bye", y.winner(0, y.count(4)), false);
        Check.is("winner of no heat", y.winner(1, y.count(4)), false);
    }

    /** Runners of towns 0 and 1, a contest of one heat, judges of the towns told. */
    private static OldStadium pair(int... judges) {
        OldStadium x = withRunners(2);
        for (int town : judges) {
            x.judge(town);
        }
        x.contest(1, 0, 1);
        return x;
    }

    private static void vote() {
        OldStadium x = withRunners(2);
        x.judge(5);
        Check.is("vote without a contest", x.vote(0, 0, 0), false);
        x = pair(5);
        Check.is("vote of judge -1", x.vote(-1, 0, 0), false);
        Check.is("vote of judge 1", x.vote(1, 0, 0), false);
        Check.is("vote in heat 1", x.vote(0, 1, 0), false);
        Check.is("vote in heat -1", x.vote(0, -1, 0), false);
        Check.is("vote for 2", x.vote(0, 0, 2), false);
        Check.is("vote for NONE", x.vote(0, 0, NONE), false);
        Check.is("no vote counted", x.decide(0), -2);
        Check.is("vote", x.vote(0, 0, 0), true);
        Check.is("a vote names no winner", x.count(7), 1);
        Check.is("vote anew", x.vote(0, 0, 1), true);
        Check.is("the latest one counts", x.decide(0), 1);
        Check.is("refused vote", x.vote(0, 0, 2), false);
        Check.is("a refused one does not count", x.decide(0), 1);
    }

    private static void voteOfOwnTown() {
        OldStadium x = pair(0, 1, 2);
        Check.is("vote for one's own town", x.vote(0, 0, 0), true);
        Check.is("does not count", x.decide(0), -2);
        Check.is("vote against one's own town", x.vote(1, 0, 0), true);
        Check.is("does not count either", x.decide(0), -2);
        Check.is("vote of another town", x.vote(2, 0, 1), true);
        Check.is("counts alone", x.decide(0), 1);
    }

    private static void votesPerHeat() {
        OldStadium x = withRunners(4);
        x.judge(9);
        x.contest(1, 0, 3);
        x.vote(0, 0, x.lane(0, 0));
        x.vote(0, 1, x.lane(1, 1));
        Check.is("a judge's vote in heat 0", x.decide(0), x.lane(0, 0));
        Check.is("the same judge's vote in heat 1", x.decide(1), x.lane(1, 1));
    }

    private static void votesOfARound() {
        OldStadium x = withRunners(3);
        x.judge(9);
        x.contest(1, 0, 3);
        int a = x.lane(0, 0);
        x.vote(0, 0, a);
        Check.is("decided", x.decide(0), a);
        x.next();
        Check.is("votes of a former round", x.decide(0), -2);
        x.vote(0, 0, a);
        x.contest(1, 0, 3);
        Check.is("votes of a former contest", x.decide(0), -2);
    }

    private static void decide() {
        OldStadium x = pair(5, 6);
        Check.is("decide without votes", x.decide(0), -2);
        Check.is("decide heat 1", x.decide(1), NONE);
        Check.is("decide heat -1", x.decide(-1), NONE);
        x.winner(0, 1);
        Check.is("no majority", x.decide(0), -2);
        Check.is("the winner stays", x.count(7), 0);
        x.vote(0, 0, 0);
        Check.is("decided against the told one", x.decide(0), 0);
        x.vote(1, 0, 1);
        Check.is("one each", x.decide(0), -2);
        x.next();
        Check.is("the decided one is the victor", x.count(5), 0);
        Check.is("decide behind the end", x.decide(0), NONE);
    }

    private static void decideByMoreThanHalf() {
        OldStadium x = withRunners(3);
        for (int j = 0; j < 5; j++) {
            x.judge(5);
        }
        x.contest(0, 3, 1);
        x.vote(0, 0, 2);
        x.vote(1, 0, 2);
        x.vote(2, 0, 1);
        x.vote(3, 0, 0);
        Check.is("two of four", x.decide(0), -2);
        Check.is("nothing changes", x.count(7), 1);
        x.vote(4, 0, 2);
        Check.is("three of five", x.decide(0), 2);
        x.vote(4, 0, 1);
        Check.is("two, two, one", x.decide(0), -2);
    }

    private static void next() {
        OldStadium x = withRunners(8);
        Check.is("next without a contest", x.next(), NONE);
        x.contest(0, 4, 21);
        Check.is("next with open heats", x.next(), NONE);
        x.winner(0, x.lane(0, 1));
        Check.is("next with one open heat", x.next(), NONE);
        Check.is("round stays", x.count(2), 1);
        x.winner(1, x.lane(1, 2));
        int both = 1 << x.lane(0, 1) | 1 << x.lane(1, 2);
        Check.is("next", x.next(), 1);
        Check.is("round", x.count(2), 2);
        Check.is("the winners are in it", 1 << x.lane(0, 0) | 1 << x.lane(0, 1), both);
        Check.is("no other one is", x.lane(0, 2), NONE);
        Check.is("heats are open again", x.count(7), 1);
        x.winner(0, x.lane(0, 0));
        Check.is("end", x.next(), 0);
        Check.is("victor", x.count(5), x.lane(0, 0));
        Check.is("round at the end", x.count(2), 2);
    }

    private static void oneAlone() {
        OldStadium x = withRunners(1);
        Check.is("contest of one", x.contest(0, 6, 4), 0);
        Check.is("has the bye", x.count(4), 0);
        Check.is("is in no heat", x.heat(0), NONE);
        Check.is("not over yet", x.count(5), NONE);
        Check.is("next", x.next(), 0);
        Check.is("is the victor", x.count(5), 0);
        Check.is("bye as in the last round", x.count(4), 0);
        Check.is("next behind the end", x.next(), NONE);
    }

    /** Of nine in bouts: 9, 5, 3, 2: three byes, for three of them as long as one without is there. */
    private static void byesAreShared() {
        for (int seed = 0; seed < 200; seed++) {
            OldStadium x = withRunners(9);
            x.contest(1, 0, seed);
            int had = 0;
            for (int round = 1; round <= 3; round++) {
                int bye = x.count(4);
                Check.is("bye of round " + round + ", seed " + seed, bye != NONE, true);
                Check.is("bye anew in round " + round + ", seed " + seed, (had >> bye & 1) != 0, false);
                had |= 1 << bye;
                for (int h = 0; h < x.count(3); h++) {
                    x.winner(h, x.lane(h, 0));
                }
                x.next();
            }
            Check.is("no bye of two, seed " + seed, x.count(4), NONE);
        }
    }

    /** Of 17 in bouts: 17, 9, 5, 3; the three who are left can all have had a bye: then the last one of the row has it. */
    private static void byeAgainWhenAllHadOne() {
        int seen = 0;
        for (int seed = 0; seed < 100; seed++) {
            OldStadium x = withRunners(17);
            x.contest(1, 0, seed);
            int had = 1 << x.count(4);
            for (int round = 1; round <= 2; round++) {
                winnersOf(x, had);
                x.next();
                had |= 1 << x.count(4);
            }
            winnersOf(x, had);
            int r = x.count(6);
            x.next();
            int left = 1 << x.lane(0, 0) | 1 << x.lane(0, 1) | 1 << x.count(4);
            if (left == had) {
                seen++;
                int[] row = mixedThree(left, r);
                Check.is("lane 0 of three with byes, seed " + seed, x.lane(0, 0), row[0]);
                Check.is("lane 1 of three with byes, seed " + seed, x.lane(0, 1), row[1]);
                Check.is("bye of three with byes, seed " + seed, x.count(4), row[2]);
            }
        }
        Check.is("often all had one", seen > 10, true);
    }

    /** In each heat one of those told wins, if there is one. */
    private static void winnersOf(OldStadium x, int told) {
        for (int h = 0; h < x.count(3); h++) {
            x.winner(h, x.lane(h, (told >> x.lane(h, 1) & 1)));
        }
    }

    private static int[] mixedThree(int bits, int r) {
        int[] row = new int[3];
        int many = 0;
        for (int runner = 0; runner < 24; runner++) {
            if ((bits >> runner & 1) == 1) {
                row[many++] = runner;
            }
        }
        for (int i = 2; i >= 1; i--) {
            r = r * 1103515245 + 12345;
            int j = (r >>> 16) % (i + 1);
            int there = row[i];
            row[i] = row[j];
            row[j] = there;
        }
        return row;
    }

    private static void runnersWhoComeLater() {
        OldStadium x = withRunners(2);
        x.contest(0, 3, 1);
        Check.is("runner in a contest", x.runner(4), 2);
        Check.is("is in no heat", x.heat(2), NONE);
        Check.is("nor in a lane", x.lane(0, 2), NONE);
        Check.is("can't win", x.winner(0, 2), false);
        Check.is("judge in a contest", x.judge(7), 0);
        Check.is("votes", x.vote(0, 0, 0), true);
        Check.is("the vote counts", x.decide(0), 0);
        Check.is("end", x.next(), 0);
        Check.is("victor", x.count(5), 0);
        x.contest(0, 3, 1);
        Check.is("is in the next contest", x.heat(2), 0);
    }
}
