import java.util.function.Supplier;

/**
 * Plays on with fresh objects of one making and writes down what they answer, so that what is hidden (votes, winners
 * told, delays, acts, joins, the ticks passed) comes to light too: two states are the same if their probes are.
 */
final class Probe {
    private static final int[] ORDERS = {0, 10, 210, 3210, 1, 120, 1230};

    private final OldStadium x;
    private final StringBuilder told = new StringBuilder();

    private Probe(OldStadium x) {
        this.x = x;
    }

    static String of(Supplier<OldStadium> made) {
        StringBuilder all = new StringBuilder();
        Probe p = new Probe(made.get());
        p.counts();
        p.playContest();
        all.append(p.told);
        p = new Probe(made.get());
        p.decideAll();
        p.counts();
        p.playContest();
        p.newContest();
        all.append(p.told);
        p = new Probe(made.get());
        p.five();
        all.append(p.told);
        p = new Probe(made.get());
        p.drive();
        all.append(p.told);
        p = new Probe(made.get());
        p.chariots();
        all.append(p.told);
        p = new Probe(made.get());
        p.stones();
        return all.append(p.told).toString();
    }

    private void say(long answer) {
        told.append(answer).append(' ');
    }

    private void say(boolean answer) {
        told.append(answer).append(' ');
    }

    private void counts() {
        for (int what = 0; what < 8; what++) {
            say(x.count(what));
        }
        for (int heat = 0; heat < x.count(3); heat++) {
            for (int i = 0; i < 6; i++) {
                say(x.lane(heat, i));
            }
        }
        for (int runner = 0; runner < x.count(0); runner++) {
            say(x.heat(runner));
        }
    }

    private void decideAll() {
        for (int heat = 0; heat < x.count(3); heat++) {
            say(x.decide(heat));
        }
    }

    /** Names winners of the later heats first, and none more than are wanted: those told already stay. */
    private void playContest() {
        for (int round = 0; round < 6; round++) {
            for (int heat = x.count(3) - 1; heat >= 0 && x.count(7) > 0; heat--) {
                say(x.winner(heat, x.lane(heat, 0)));
            }
            say(x.next());
            counts();
        }
    }

    /** One more runner, all judges' votes for another: this tells the towns. */
    private void newContest() {
        say(x.runner(0));
        say(x.judge(0));
        say(x.contest(1, 0, 77));
        for (int heat = 0; heat < x.count(3); heat++) {
            for (int judge = 0; judge < x.count(1); judge++) {
                say(x.vote(judge, heat, x.lane(heat, 0)));
                say(x.decide(heat));
                say(x.vote(judge, heat, x.lane(heat, 1)));
            }
        }
    }

    private void five() {
        for (int i = 0; i < 6; i++) {
            say(x.won());
            for (int a = 0; a < 5; a++) {
                for (int what = 0; what < 3; what++) {
                    say(x.athlete(a, what));
                }
            }
            say(x.event(ORDERS[i % 4]));
            say(x.event(ORDERS[(i + 1) % 7]));
            say(x.event(ORDERS[(i + 2) % 7]));
            say(x.event(ORDERS[(i + 3) % 7]));
        }
    }

    private void drive() {
        for (int lane = 0; lane < 9; lane++) {
            say(x.chariot(lane, 3));
        }
        for (int c = 0; c < 8; c++) {
            say(x.drive(c, 3, 0));
        }
        chariots();
    }

    private void chariots() {
        for (int i = 0; i < 28; i++) {
            for (int c = 0; c < 8; c++) {
                for (int what = 0; what < 6; what++) {
                    say(x.at(c, what));
                }
            }
            say(x.run(1));
        }
        say(x.run(200));
    }

    private void stones() {
        roll();
        say(x.span(0));
        roll();
        say(x.span(40));
        for (int i = 0; i < 7; i++) {
            roll();
            say(x.stone(0, 7, 8, 0x02000000, 0, 3));
            roll();
            say(x.lose(i % 2));
            say(x.lose(0));
        }
    }

    private void roll() {
        say(x.rolls());
        say(x.wrong());
        for (int s = 0; s < 6; s++) {
            for (int i = 0; i < 8; i++) {
                say(x.letter(s, i));
                say(x.agree(s, i));
                say(x.year(s, i));
            }
        }
    }
}
