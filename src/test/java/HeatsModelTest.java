import java.util.ArrayList;
import java.util.HashMap;
import java.util.HashSet;
import java.util.List;
import java.util.Map;
import java.util.Random;
import java.util.Set;
import java.util.TreeSet;

/** Promises 2 to 11: long runs of calls, against a model written with lists and sets. */
public final class HeatsModelTest {
    private static final class Model {
        final List<Integer> towns = new ArrayList<>();
        final List<Integer> judges = new ArrayList<>();
        final List<List<Integer>> heats = new ArrayList<>();
        final Map<Integer, Integer> winners = new HashMap<>();
        final Map<Integer, Map<Integer, Integer>> votes = new HashMap<>();
        final Set<Integer> hadBye = new HashSet<>();
        int size;
        int round;
        int bye = -1;
        int victor = -1;
        long r;
        boolean going;

        int contest(int kind, int wanted, int seed) {
            if (towns.isEmpty() || kind != 0 && kind != 1 || kind == 0 && (wanted < 2 || wanted > 6)) {
                return -1;
            }
            size = kind == 1 ? 2 : wanted;
            round = 0;
            victor = -1;
            hadBye.clear();
            going = true;
            r = seed & 0xffffffffL;
            Set<Integer> all = new TreeSet<>();
            for (int i = 0; i < towns.size(); i++) {
                all.add(i);
            }
            draw(all);
            return heats.size();
        }

        void draw(Set<Integer> in) {
            List<Integer> row = new ArrayList<>(in);
            for (int i = row.size() - 1; i >= 1; i--) {
                r = (r * 1103515245L + 12345L) & 0xffffffffL;
                int j = (int) ((r >> 16) % (i + 1));
                int there = row.get(i);
                row.set(i, row.get(j));
                row.set(j, there);
            }
            round++;
            heats.clear();
            winners.clear();
            votes.clear();
            bye = -1;
            if (row.size() % size == 1) {
                int end = row.size() - 1;
                if (hadBye.contains(row.get(end))) {
                    int other = end - 1;
                    while (other >= 0 && hadBye.contains(row.get(other))) {
                        other--;
                    }
                    if (other >= 0) {
                        int there = row.get(end);
                        row.set(end, row.get(other));
                        row.set(other, there);
                    }
                }
                bye = row.remove(end);
                hadBye.add(bye);
            }
            while (!row.isEmpty()) {
                int many = Math.min(size, row.size());
                heats.add(new ArrayList<>(row.subList(0, many)));
                row.subList(0, many).clear();
            }
        }

        boolean names(int heat, int runner) {
            return going && heat >= 0 && heat < heats.size() && heats.get(heat).contains(runner);
        }

        int heat(int runner) {
            for (int h = 0; h < heats.size(); h++) {
                if (names(h, runner)) {
                    return h;
                }
            }
            return -1;
        }

        int lane(int heat, int i) {
            boolean there = heat >= 0 && heat < heats.size() && i >= 0 && i < heats.get(heat).size();
            return there ? heats.get(heat).get(i) : -1;
        }

        int count(int what) {
            int[] all = {towns.size(), judges.size(), round, heats.size(), bye, victor, (int) r,
                    heats.size() - winners.size()};
            return what >= 0 && what < all.length ? all[what] : -1;
        }

        boolean winner(int heat, int runner) {
            if (names(heat, runner)) {
                winners.put(heat, runner);
            }
            return names(heat, runner);
        }

        boolean vote(int judge, int heat, int runner) {
            boolean right = judge >= 0 && judge < judges.size() && names(heat, runner);
            if (right) {
                votes.computeIfAbsent(heat, h -> new HashMap<>()).put(judge, runner);
            }
            return right;
        }

        int decide(int heat) {
            if (!going || heat < 0 || heat >= heats.size()) {
                return -1;
            }
            Set<Integer> own = new HashSet<>();
            heats.get(heat).forEach(runner -> own.add(towns.get(runner)));
            Map<Integer, Integer> found = new HashMap<>();
            int all = 0;
            for (Map.Entry<Integer, Integer> e : votes.getOrDefault(heat, Map.of()).entrySet()) {
                if (!own.contains(judges.get(e.getKey()))) {
                    found.merge(e.getValue(), 1, Integer::sum);
                    all++;
                }
            }
            for (Map.Entry<Integer, Integer> e : found.entrySet()) {
                if (e.getValue() > all - e.getValue()) {
                    winners.put(heat, e.getKey());
                    return e.getKey();
                }
            }
            return -2;
        }

        int next() {
            if (!going || winners.size() < heats.size()) {
                return -1;
            }
            Set<Integer> in = new TreeSet<>(winners.values());
            if (bye >= 0) {
                in.add(bye);
            }
            if (in.size() == 1) {
                victor = in.iterator().next();
                going = false;
                return 0;
            }
            draw(in);
            return heats.size();
        }
    }

    private static Random lots;
    private static OldStadium x;
    private static Model m;

    public static void main(String[] args) {
        for (int run = 0; run < 400; run++) {
            lots = new Random(run);
            x = new OldStadium();
            m = new Model();
            int runners = lots.nextInt(25);
            for (int i = 0; i < runners; i++) {
                addRunner();
            }
            for (int i = lots.nextInt(10); i > 0; i--) {
                addJudge();
            }
            for (int call = 0; call < 400; call++) {
                oneCall("run " + run + " call " + call + " ");
            }
        }
        Check.end();
    }

    private static void addRunner() {
        int town = lots.nextInt(10);
        int due = m.towns.size() < 24 ? m.towns.size() : -1;
        if (due >= 0) {
            m.towns.add(town);
        }
        Check.is("runner(" + town + ")", x.runner(town), due);
    }

    private static void addJudge() {
        int town = lots.nextInt(10);
        int due = m.judges.size() < 9 ? m.judges.size() : -1;
        if (due >= 0) {
            m.judges.add(town);
        }
        Check.is("judge(" + town + ")", x.judge(town), due);
    }

    private static int anyHeat() {
        return lots.nextInt(Math.max(1, m.heats.size()) + 1) - (lots.nextInt(20) == 0 ? 1 : 0);
    }

    private static int anyRunnerOf(int heat) {
        int i = lots.nextInt(7);
        int runner = m.lane(heat, i);
        return runner >= 0 ? runner : lots.nextInt(26) - 1;
    }

    private static void oneCall(String at) {
        int heat = anyHeat();
        int runner = anyRunnerOf(heat);
        switch (lots.nextInt(24)) {
            case 0:
                if (lots.nextInt(8) == 0) {
                    addRunner();
                } else if (lots.nextInt(8) == 0) {
                    addJudge();
                }
                break;
            case 1:
                if (lots.nextInt(3) == 0 || !m.going) {
                    int kind = lots.nextInt(8) == 0 ? lots.nextInt(4) - 1 : lots.nextInt(2);
                    int size = lots.nextInt(8) == 0 ? lots.nextInt(9) : 2 + lots.nextInt(5);
                    int seed = lots.nextInt();
                    Check.is(at + "contest", x.contest(kind, size, seed), m.contest(kind, size, seed));
                }
                break;
            case 2, 3, 4:
                Check.is(at + "winner", x.winner(heat, runner), m.winner(heat, runner));
                break;
            case 5, 6, 7, 8, 9, 10, 11:
                int judge = lots.nextInt(10);
                Check.is(at + "vote", x.vote(judge, heat, runner), m.vote(judge, heat, runner));
                break;
            case 12, 13, 14:
                Check.is(at + "decide", x.decide(heat), m.decide(heat));
                break;
            case 15, 16, 17:
                Check.is(at + "next", x.next(), m.next());
                break;
            case 18:
                for (int h = 0; h < m.heats.size() && m.going; h++) {
                    int first = m.lane(h, 0);
                    Check.is(at + "winner", x.winner(h, first), m.winner(h, first));
                }
                break;
            default:
                askAll(at);
        }
    }

    private static void askAll(String at) {
        int what = lots.nextInt(11) - 1;
        Check.is(at + "count(" + what + ")", x.count(what), m.count(what));
        int heat = anyHeat();
        for (int i = -1; i < 7; i++) {
            Check.is(at + "lane", x.lane(heat, i), m.lane(heat, i));
        }
        int runner = lots.nextInt(26) - 1;
        Check.is(at + "heat", x.heat(runner), m.heat(runner));
    }
}
