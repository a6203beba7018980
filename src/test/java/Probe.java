import java.util.List;
import java.util.function.Supplier;

/**
 * Plays on with fresh objects of one making and writes down what they answer, so that what is hidden (votes, winners
 * told, delays, acts, joins, the ticks passed) comes to light too: two states are the same if their probes are.
 */
final class Probe {
    private static final int[] ORDERS = {0, 10, 210, 3210, 1, 120, 1230};

    private final OldStadium x;
    private final StringBuilder told = new StringBuilder();

    private Probe(OldStadium x) {
        this.x = x;
    }

    static String of(Supplier<OldStadium> made) {
        StringBuilder all = new StringBuilder();
        Probe contest = new Probe(made.get());
        contest.counts();
        contest.playContest();
        Probe votes = new Probe(made.get());
        votes.decideAll();
        votes.playContest();
        Probe towns = new Probe(made.get());
        towns.newContest();
        Probe five = new Probe(made.get());
        five.five();
        Probe more = new Probe(made.get());
        more.drive();
        Probe chariots = new Probe(made.get());
        chariots.chariots();
        Probe stones = new Probe(made.get());
        stones.stones();
        for (Probe p : List.of(contest, votes, towns, five, more, chariots, stones)) {
            all.append(p.told);
        }
        return all.toString();
    }

    private void say(long answer) {
        told.append(answer).append(' ');
    }

    private void say(boolean answer) {
        told.append(answer).append(' ');
    }

    private void counts() {
        for (int what = 0; what < 8; what++) {
            say(x.count(what));
        }
        int heats = x.count(3);
        for (int heat = 0; heat < heats; heat++) {
            int runner = 0;
            for (int i = 0; i < 6 && runner != OldStadium.NONE; i++) {
                runner = x.lane(heat, i);
                say(runner);
            }
        }
        int runners = x.count(0);
        for (int runner = 0; runner < runners; runner++) {
            say(x.heat(runner));
        }
    }

    private void decideAll() {
        int heats = x.count(3);
        for (int heat = 0; heat < heats; heat++) {
            say(x.decide(heat));
        }
    }

    /** Names winners of the later heats first, and none more than are wanted: those told already stay. */
    private void playContest() {
        int heats = 1;
        for (int round = 0; round < 6 && heats > 0; round++) {
            for (int heat = x.count(3) - 1; heat >= 0 && x.count(7) > 0; heat--) {
                say(x.winner(heat, x.lane(heat, 0)));
            }
            heats = x.next();
            say(heats);
            counts();
        }
    }

    /** One more runner and judge, and votes of all judges in all heats: this tells the towns. */
    private void newContest() {
        say(x.runner(0));
        say(x.judge(0));
        int heats = x.contest(1, 0, 77);
        int judges = x.count(1);
        for (int heat = 0; heat < heats; heat++) {
            int[] runners = {x.lane(heat, 0), x.lane(heat, 1)};
            for (int judge = 0; judge < judges; judge++) {
                say(x.vote(judge, heat, runners[judge % 2]));
                say(x.decide(heat));
            }
        }
    }

    private void five() {
        for (int i = 0; i < 6; i++) {
            say(x.won());
            for (int a = 0; a < 5; a++) {
                for (int what = 0; what < 3; what++) {
                    say(x.athlete(a, what));
                }
            }
            say(x.event(ORDERS[i % 4]));
            say(x.event(ORDERS[(i + 1) % 7]));
            say(x.event(ORDERS[(i + 2) % 7]));
            say(x.event(ORDERS[(i + 3) % 7]));
        }
    }

    private void drive() {
        for (int lane = 0; lane < 9; lane++) {
            say(x.chariot(lane, 3));
        }
        for (int c = 0; c < 8; c++) {
            say(x.drive(c, 3, 0));
        }
        chariots();
    }

    private void chariots() {
        int many = 0;
        while (many < 8 && x.at(many, 0) != OldStadium.NONE) {
            many++;
        }
        atAll(many);
        for (int i = 0; i < 28; i++) {
            say(x.run(1));
            for (int c = 0; c < many; c++) {
                say(x.at(c, 2));
            }
        }
        atAll(many);
        say(x.run(200));
        atAll(many);
    }

    private void atAll(int many) {
        for (int c = 0; c < many; c++) {
            for (int what = 0; what < 6; what++) {
                say(x.at(c, what));
            }
        }
    }

    private void stones() {
        int many = 0;
        while (x.letter(many, 0) != OldStadium.NONE) {
            for (int i = 0; i < 8; i++) {
                say(x.letter(many, i));
                say(x.agree(many, i));
            }
            many++;
        }
        roll(many);
        say(x.span(0));
        roll(many);
        say(x.span(40));
        for (int i = 0; i < 7; i++) {
            roll(many);
            say(x.stone(0, 7, 8, 0x02000000, 0, 3));
            roll(Math.min(many + 1, 6));
            say(x.lose(i % 2));
            say(x.lose(0));
            many = Math.max(0, Math.min(many + 1, 6) - 2);
        }
    }

    private void roll(int many) {
        say(x.rolls());
        say(x.wrong());
        for (int s = 0; s < many; s++) {
            for (int what = 0; what < 3; what++) {
                say(x.year(s, what));
            }
        }
    }
}
