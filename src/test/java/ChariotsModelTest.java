import java.util.ArrayList;
import java.util.Collection;
import java.util.Comparator;
import java.util.List;
import java.util.Map;
import java.util.Random;
import java.util.stream.Collectors;

/** Promises 16 to 20: many tracks, against a model written with lists of those on the track. */
public final class ChariotsModelTest {
    private static final class Chariot {
        int lane;
        int delay;
        int cell;
        int laps;
        int state;
        int ended;
        int place;
        final List<int[]> acts = new ArrayList<>();

        int[] act(int tick) {
            return acts.isEmpty() ? new int[2] : acts.get((tick - 1 - delay) % acts.size());
        }
    }

    private final int lanes;
    private final int cells;
    private final int laps;
    private final List<Chariot> all = new ArrayList<>();
    private final List<Chariot> track = new ArrayList<>();
    private int tick = 0;
    private int home = 0;

    private ChariotsModelTest(int lanes, int cells, int laps) {
        this.lanes = lanes;
        this.cells = cells;
        this.laps = laps;
    }

    private void leave(Chariot c, int state) {
        c.state = state;
        c.ended = tick;
        track.remove(c);
    }

    private void crash() {
        Map<Integer, List<Chariot>> cellsTaken = track.stream().collect(Collectors.groupingBy(c -> c.lane * 100 + c.cell));
        cellsTaken.values().stream().filter(l -> l.size() > 1).flatMap(Collection::stream).forEach(c -> leave(c, 3));
    }

    private void tick() {
        tick++;
        for (Chariot c : all) {
            if (c.state == 0 && c.delay + 1 == tick) {
                c.state = 1;
                track.add(c);
            }
        }
        crash();
        for (int s = 1; s <= 4; s++) {
            for (Chariot c : track) {
                if (c.act(tick)[0] >= s) {
                    c.laps += (c.cell + 1) / cells;
                    c.cell = (c.cell + 1) % cells;
                }
            }
            List<Chariot> ready = new ArrayList<>(track);
            ready.removeIf(c -> c.laps < laps);
            ready.sort(Comparator.comparingInt(c -> c.lane));
            for (Chariot c : ready) {
                leave(c, 2);
                c.place = ++home;
            }
            crash();
        }
        for (Chariot c : track) {
            c.lane = Math.max(0, Math.min(lanes - 1, c.lane + c.act(tick)[1]));
        }
        crash();
    }

    public static void main(String[] args) {
        int[] seen = new int[4];
        for (int run = 0; run < 4000; run++) {
            play(new Random(run), run, seen);
        }
        for (int state = 0; state < seen.length; state++) {
            Check.is("state " + state + " was seen often", seen[state] > 1000, true);
        }
        Check.end();
    }

    private static void play(Random lots, int run, int[] seen) {
        int lanes = 1 + lots.nextInt(8);
        int cells = lots.nextInt(4) == 0 ? 4 + lots.nextInt(57) : 4 + lots.nextInt(6);
        int laps = 1 + lots.nextInt(lots.nextInt(4) == 0 ? 9 : 3);
        ChariotsModelTest m = new ChariotsModelTest(lanes, cells, laps);
        OldStadium x = new OldStadium();
        Check.is("track", x.track(lanes, cells, laps), true);
        boolean sideways = lots.nextInt(2) == 0;
        for (int tries = 0; tries < 10; tries++) {
            addChariot(x, m, lots, sideways);
        }
        for (int i = 0; i < 12; i++) {
            int n = lots.nextInt(5) == 0 ? lots.nextInt(30) : lots.nextInt(3);
            for (int t = 0; t < n; t++) {
                m.tick();
            }
            Check.is("run " + run + ": run(" + n + ")", x.run(n), m.track.size());
            for (int c = 0; c < m.all.size(); c++) {
                Chariot due = m.all.get(c);
                int[] told = {due.state, due.lane, due.cell, due.laps, due.ended, due.place};
                for (int what = 0; what < told.length; what++) {
                    Check.is("run " + run + " tick " + m.tick + ": at(" + c + ", " + what + ")", x.at(c, what), told[what]);
                }
                seen[due.state]++;
            }
        }
    }

    private static void addChariot(OldStadium x, ChariotsModelTest m, Random lots, boolean sideways) {
        Chariot c = new Chariot();
        c.lane = lots.nextInt(m.lanes);
        c.delay = lots.nextInt(3) == 0 ? lots.nextInt(21) : lots.nextInt(3);
        boolean taken = m.all.stream().anyMatch(d -> d.lane == c.lane);
        int number = x.chariot(c.lane, c.delay);
        Check.is("chariot", number, taken ? -1 : m.all.size());
        if (taken) {
            return;
        }
        m.all.add(c);
        for (int k = lots.nextInt(5) == 0 ? lots.nextInt(13) : lots.nextInt(4); k > 0; k--) {
            int side = sideways ? lots.nextInt(3) - 1 : 0;
            int[] act = {lots.nextInt(5), side};
            c.acts.add(act);
            Check.is("drive", x.drive(number, act[0], act[1]), c.acts.size());
        }
    }
}
