import java.util.Arrays;

/**
 * Games of an old stadium: heats drawn by lots, five events in one, chariots on a track,
 * and a roll of victors read from broken stones.
 */
public final class OldStadium {
    public static final int NONE = -1;

    private static final int TOWNS = 10;

    private final Heats heats = new Heats();
    private final FiveInOne games = new FiveInOne();
    private final Hippodrome course = new Hippodrome();
    private final Quarry quarry = new Quarry();

    public OldStadium() {
    }

    // ---- heats

    public int runner(int town) {
        return heats.addRunner(town);
    }

    public int judge(int town) {
        return heats.addJudge(town);
    }

    public int contest(int kind, int size, int seed) {
        return heats.begin(kind, size, seed);
    }

    public int heat(int runner) {
        return heats.heatOf(runner);
    }

    public int lane(int heat, int i) {
        return heats.runnerAt(heat, i);
    }

    public int count(int what) {
        return heats.tell(what);
    }

    public boolean winner(int heat, int runner) {
        return heats.setWinner(heat, runner);
    }

    public boolean vote(int judge, int heat, int runner) {
        return heats.castVote(judge, heat, runner);
    }

    public int decide(int heat) {
        return heats.decideByVotes(heat);
    }

    public int next() {
        return heats.goOn();
    }

    // ---- five in one

    public boolean five(int n) {
        return games.begin(n);
    }

    public int event(int order) {
        return games.tellOrder(order);
    }

    public int athlete(int a, int what) {
        return games.tell(a, what);
    }

    public int won() {
        return games.champion();
    }

    // ---- chariots

    public boolean track(int lanes, int cells, int laps) {
        return course.layOut(lanes, cells, laps);
    }

    public int chariot(int lane, int delay) {
        return course.addChariot(lane, delay);
    }

    public int drive(int chariot, int forward, int side) {
        return course.addAct(chariot, forward, side);
    }

    public int run(int n) {
        return course.pass(n);
    }

    public int at(int chariot, int what) {
        return course.tell(chariot, what);
    }

    // ---- the roll

    public int stone(int event, int a, int b, int first, int last, int town) {
        return quarry.addStone(event, a, b, first, last, town);
    }

    public boolean join(int a, int b, boolean are) {
        return quarry.setJoined(a, b, are);
    }

    public int span(int v) {
        return quarry.setSpan(v);
    }

    public int lose(int stone) {
        return quarry.breakUp(stone);
    }

    public int agree(int a, int b) {
        return quarry.tellAgreeing(a, b);
    }

    public int rolls() {
        return quarry.countRolls();
    }

    public int year(int stone, int what) {
        return quarry.tellYear(stone, what);
    }

    public int wrong() {
        return quarry.fewestWrong();
    }

    public int letter(int stone, int i) {
        return quarry.tellLetter(stone, i);
    }

    private static boolean isTown(int town) {
        return town >= 0 && town < TOWNS;
    }

    private static boolean hasBit(int bits, int i) {
        return (bits >>> i & 1) != 0;
    }

    /** Runners, judges, and the contest that goes on among them, or the last one. */
    private static final class Heats {
        private static final int MOST_RUNNERS = 24;
        private static final int MOST_JUDGES = 9;
        private static final int LEAST_SIZE = 2;
        private static final int MOST_SIZE = 6;
        private static final int MOST_HEATS = MOST_RUNNERS / LEAST_SIZE;
        private static final int NO_MAJORITY = -2;

        private final int[] runnerTowns = new int[MOST_RUNNERS];
        private final int[] judgeTowns = new int[MOST_JUDGES];
        /** Those who are in the round, as they stand: heat after heat, one with a bye last. */
        private final int[] row = new int[MOST_RUNNERS];
        private final int[] winners = new int[MOST_HEATS];
        /** By judge and heat: the runner voted for, or NONE. */
        private final int[][] votes = new int[MOST_JUDGES][MOST_HEATS];
        private int runners = 0;
        private int judges = 0;
        private boolean going = false;
        private int round = 0;
        private int size = LEAST_SIZE;
        private int entered = 0;
        private int heats = 0;
        private int bye = NONE;
        private int byesHad = 0;
        private int victor = NONE;
        private int lot = 0;

        int addRunner(int town) {
            if (!isTown(town) || runners >= MOST_RUNNERS) {
                return NONE;
            }
            runnerTowns[runners] = town;
            return runners++;
        }

        int addJudge(int town) {
            if (!isTown(town) || judges >= MOST_JUDGES) {
                return NONE;
            }
            judgeTowns[judges] = town;
            return judges++;
        }

        int begin(int kind, int sizeOfRace, int seed) {
            int wanted = kind == 1 ? 2 : sizeOfRace;
            if (kind < 0 || kind > 1 || wanted < LEAST_SIZE || wanted > MOST_SIZE || runners == 0) {
                return NONE;
            }
            size = wanted;
            lot = seed;
            round = 0;
            byesHad = 0;
            victor = NONE;
            going = true;
            enter(-1);
            return beginRound();
        }

        /** Puts those of the bits into the row, ascending. */
        private void enter(int bits) {
            entered = 0;
            for (int r = 0; r < runners; r++) {
                if (hasBit(bits, r)) {
                    row[entered] = r;
                    entered++;
                }
            }
        }

        private int beginRound() {
            round++;
            mixRow();
            heats = size > 0 ? entered / size : 0;
            int left = entered - heats * size;
            bye = NONE;
            if (left == 1) {
                giveBye(entered - 1);
            } else if (left > 1) {
                heats++;
            }
            Arrays.fill(winners, NONE);
            for (int j = 0; j < MOST_JUDGES; j++) {
                Arrays.fill(votes[j], NONE);
            }
            return heats;
        }

        private void mixRow() {
            for (int i = entered - 1; i >= 1; i--) {
                lot = lot * 1103515245 + 12345;
                exchange(i, (lot >>> 16) % (i + 1));
            }
        }

        private void exchange(int i, int j) {
            int runner = row[i];
            row[i] = row[j];
            row[j] = runner;
        }

        private void giveBye(int place) {
            if (hasBit(byesHad, row[place])) {
                exchange(place, lastWithoutBye(place));
            }
            bye = row[place];
            byesHad |= 1 << bye;
        }

        /** The last place of the row that holds one who had no bye yet; the place given if there is none such. */
        private int lastWithoutBye(int place) {
            for (int i = place - 1; i >= 0; i--) {
                if (!hasBit(byesHad, row[i])) {
                    return i;
                }
            }
            return place;
        }

        private boolean isHeat(int heat) {
            return heat >= 0 && heat < heats;
        }

        private int sizeOf(int heat) {
            return Math.min(size, entered - heat * size);
        }

        int runnerAt(int heat, int i) {
            return isHeat(heat) && i >= 0 && i < sizeOf(heat) ? row[heat * size + i] : NONE;
        }

        private boolean isIn(int heat, int runner) {
            for (int i = 0; i < size; i++) {
                if (runner >= 0 && runnerAt(heat, i) == runner) {
                    return true;
                }
            }
            return false;
        }

        int heatOf(int runner) {
            for (int h = 0; going && h < heats; h++) {
                if (isIn(h, runner)) {
                    return h;
                }
            }
            return NONE;
        }

        private int openHeats() {
            int open = 0;
            for (int h = 0; h < heats; h++) {
                if (winners[h] == NONE) {
                    open++;
                }
            }
            return open;
        }

        int tell(int what) {
            switch (what) {
                case 0:
                    return runners;
                case 1:
                    return judges;
                case 2:
                    return round;
                case 3:
                    return heats;
                case 4:
                    return bye;
                case 5:
                    return victor;
                case 6:
                    return lot;
                case 7:
                    return openHeats();
                default:
                    return NONE;
            }
        }

        boolean setWinner(int heat, int runner) {
            if (!going || !isHeat(heat) || !isIn(heat, runner)) {
                return false;
            }
            winners[heat] = runner;
            return true;
        }

        boolean castVote(int judge, int heat, int runner) {
            if (judge < 0 || judge >= judges || !going || !isHeat(heat) || !isIn(heat, runner)) {
                return false;
            }
            votes[judge][heat] = runner;
            return true;
        }

        int decideByVotes(int heat) {
            if (!going || !isHeat(heat)) {
                return NONE;
            }
            int all = 0;
            for (int i = 0; i < sizeOf(heat); i++) {
                all += votesFor(heat, runnerAt(heat, i));
            }
            for (int i = 0; i < sizeOf(heat); i++) {
                int runner = runnerAt(heat, i);
                if (2 * votesFor(heat, runner) > all) {
                    winners[heat] = runner;
                    return runner;
                }
            }
            return NO_MAJORITY;
        }

        private int votesFor(int heat, int runner) {
            int found = 0;
            for (int j = 0; j < judges; j++) {
                if (votes[j][heat] == runner && !hasTown(heat, judgeTowns[j])) {
                    found++;
                }
            }
            return found;
        }

        private boolean hasTown(int heat, int town) {
            for (int i = 0; i < sizeOf(heat); i++) {
                int runner = runnerAt(heat, i);
                if (runner >= 0 && runnerTowns[runner] == town) {
                    return true;
                }
            }
            return false;
        }

        int goOn() {
            if (!going || openHeats() > 0) {
                return NONE;
            }
            if (heats == 0) {
                return end(bye);
            }
            if (heats == 1 && bye == NONE) {
                return end(winners[0]);
            }
            int bits = bye == NONE ? 0 : 1 << bye;
            for (int h = 0; h < heats; h++) {
                bits |= 1 << winners[h];
            }
            enter(bits);
            return beginRound();
        }

        private int end(int runner) {
            victor = runner;
            going = false;
            return 0;
        }
    }

    /** Five events in one. */
    private static final class FiveInOne {
        private static final int MOST_ATHLETES = 4;
        private static final int EVENTS = 5;
        private static final int WINS_ENOUGH = 3;

        private final int[] wins = new int[MOST_ATHLETES];
        private final int[] sums = new int[MOST_ATHLETES];
        /** 0 until a five begins. */
        private int athletes = 0;
        private int told = 0;
        private int champion = NONE;

        boolean begin(int n) {
            if (n < 1 || n > MOST_ATHLETES) {
                return false;
            }
            athletes = n;
            told = 0;
            champion = NONE;
            Arrays.fill(wins, 0);
            Arrays.fill(sums, 0);
            return true;
        }

        int tellOrder(int order) {
            if (athletes == 0 || champion != NONE || !isOrder(order)) {
                return NONE;
            }
            int rest = order;
            for (int place = 1; place <= athletes; place++) {
                int a = rest % 10;
                rest /= 10;
                sums[a] += place;
                if (place == 1) {
                    wins[a]++;
                }
            }
            told++;
            champion = findChampion();
            return told;
        }

        private boolean isOrder(int order) {
            int rest = order;
            int seen = 0;
            for (int place = 0; place < athletes; place++) {
                int a = rest % 10;
                if (a < 0 || a >= athletes || hasBit(seen, a)) {
                    return false;
                }
                seen |= 1 << a;
                rest /= 10;
            }
            return order >= 0 && rest == 0;
        }

        private int findChampion() {
            int best = 0;
            for (int a = 1; a < athletes; a++) {
                if (isAhead(a, wins[a], sums[a], best, wins[best], sums[best])) {
                    best = a;
                }
            }
            return wins[best] >= WINS_ENOUGH || told >= EVENTS ? best : NONE;
        }

        private static boolean isAhead(int a, int winsOfA, int sumOfA, int b, int winsOfB, int sumOfB) {
            if (winsOfA != winsOfB) {
                return winsOfA > winsOfB;
            }
            return sumOfA != sumOfB ? sumOfA < sumOfB : a < b;
        }

        int champion() {
            return champion;
        }

        int tell(int a, int what) {
            if (a < 0 || a >= athletes) {
                return NONE;
            }
            switch (what) {
                case 0:
                    return wins[a];
                case 1:
                    return sums[a];
                case 2:
                    return canWin(a) ? 1 : 0;
                default:
                    return NONE;
            }
        }

        /**
         * Nothing serves one better than being first in all events that are left. If that makes no three
         * wins, it makes two at most, and of the five at most one other one has as many: so for each other
         * one it may be taken that it comes last in all that are left.
         */
        private boolean canWin(int a) {
            if (champion != NONE) {
                return champion == a;
            }
            int left = EVENTS - told;
            int winsThen = wins[a] + left;
            if (winsThen >= WINS_ENOUGH) {
                return true;
            }
            for (int b = 0; b < athletes; b++) {
                int sumOfB = sums[b] + left * athletes;
                if (b != a && !isAhead(a, winsThen, sums[a] + left, b, wins[b], sumOfB)) {
                    return false;
                }
            }
            return true;
        }
    }

    /** The track and its chariots. */
    private static final class Hippodrome {
        private static final int MOST_LANES = 8;
        private static final int LEAST_CELLS = 4;
        private static final int MOST_CELLS = 60;
        private static final int MOST_LAPS = 9;
        private static final int MOST_CHARIOTS = 8;
        private static final int MOST_DELAY = 20;
        private static final int MOST_ACTS = 12;
        private static final int STEPS = 4;
        private static final int MOST_TICKS = 200;
        private static final int IN_GATE = 0;
        private static final int ON_TRACK = 1;
        private static final int HOME = 2;
        private static final int CRASHED = 3;

        private final int[] delay = new int[MOST_CHARIOTS];
        private final int[] lane = new int[MOST_CHARIOTS];
        private final int[] cell = new int[MOST_CHARIOTS];
        private final int[] lapsDone = new int[MOST_CHARIOTS];
        private final int[] state = new int[MOST_CHARIOTS];
        private final int[] endTick = new int[MOST_CHARIOTS];
        private final int[] place = new int[MOST_CHARIOTS];
        private final int[] acts = new int[MOST_CHARIOTS];
        private final int[][] forward = new int[MOST_CHARIOTS][MOST_ACTS];
        private final int[][] side = new int[MOST_CHARIOTS][MOST_ACTS];
        /** 0 until a track is laid out. */
        private int lanes = 0;
        private int cells = 0;
        private int laps = 0;
        private int chariots = 0;
        private int tick = 0;
        private int cameHome = 0;

        boolean layOut(int newLanes, int newCells, int newLaps) {
            if (newLanes < 1 || newLanes > MOST_LANES || newCells < LEAST_CELLS || newCells > MOST_CELLS
                    || newLaps < 1 || newLaps > MOST_LAPS) {
                return false;
            }
            lanes = newLanes;
            cells = newCells;
            laps = newLaps;
            chariots = 0;
            tick = 0;
            cameHome = 0;
            return true;
        }

        int addChariot(int laneWanted, int delayWanted) {
            if (laneWanted < 0 || laneWanted >= lanes || delayWanted < 0 || delayWanted > MOST_DELAY
                    || isTaken(laneWanted) || chariots >= MOST_CHARIOTS || tick != 0) {
                return NONE;
            }
            delay[chariots] = delayWanted;
            lane[chariots] = laneWanted;
            cell[chariots] = 0;
            lapsDone[chariots] = 0;
            state[chariots] = IN_GATE;
            endTick[chariots] = 0;
            place[chariots] = 0;
            acts[chariots] = 0;
            return chariots++;
        }

        private boolean isTaken(int laneWanted) {
            for (int c = 0; c < chariots; c++) {
                if (lane[c] == laneWanted) {
                    return true;
                }
            }
            return false;
        }

        private boolean isChariot(int c) {
            return c >= 0 && c < chariots;
        }

        int addAct(int c, int newForward, int newSide) {
            if (!isChariot(c) || newForward < 0 || newForward > STEPS || newSide < -1 || newSide > 1
                    || acts[c] >= MOST_ACTS || tick != 0) {
                return NONE;
            }
            forward[c][acts[c]] = newForward;
            side[c][acts[c]] = newSide;
            acts[c]++;
            return acts[c];
        }

        int pass(int n) {
            if (lanes == 0 || n < 0 || n > MOST_TICKS) {
                return NONE;
            }
            for (int i = 0; i < n; i++) {
                passTick();
            }
            int onTrack = 0;
            for (int c = 0; c < chariots; c++) {
                if (state[c] == ON_TRACK) {
                    onTrack++;
                }
            }
            return onTrack;
        }

        private void passTick() {
            tick++;
            letIn();
            crash();
            for (int step = 1; step <= STEPS; step++) {
                goForward(step);
                bringHome();
                crash();
            }
            changeLanes();
            crash();
        }

        private void letIn() {
            for (int c = 0; c < chariots; c++) {
                if (state[c] == IN_GATE && delay[c] == tick - 1) {
                    state[c] = ON_TRACK;
                }
            }
        }

        /** Which act a chariot on the track is at; NONE if it has none. */
        private int actOf(int c) {
            return acts[c] > 0 ? Math.floorMod(tick - 1 - delay[c], acts[c]) : NONE;
        }

        private void goForward(int step) {
            for (int c = 0; c < chariots; c++) {
                int act = actOf(c);
                if (state[c] == ON_TRACK && act >= 0 && forward[c][act] >= step) {
                    cell[c]++;
                    if (cell[c] >= cells) {
                        cell[c] = 0;
                        lapsDone[c]++;
                    }
                }
            }
        }

        /** Lane by lane, as of one step the less lane is ahead. */
        private void bringHome() {
            for (int l = 0; l < lanes; l++) {
                for (int c = 0; c < chariots; c++) {
                    if (state[c] == ON_TRACK && lane[c] == l && lapsDone[c] >= laps) {
                        cameHome++;
                        state[c] = HOME;
                        endTick[c] = tick;
                        place[c] = cameHome;
                    }
                }
            }
        }

        private void changeLanes() {
            for (int c = 0; c < chariots; c++) {
                int act = actOf(c);
                if (state[c] == ON_TRACK && act >= 0) {
                    int wanted = lane[c] + side[c][act];
                    lane[c] = wanted >= 0 && wanted < lanes ? wanted : lane[c];
                }
            }
        }

        /** Finds all that share a cell before any of them leaves the track: three in one cell all crash. */
        private void crash() {
            int crashing = 0;
            for (int c = 0; c < chariots; c++) {
                if (sharesCell(c)) {
                    crashing |= 1 << c;
                }
            }
            for (int c = 0; c < chariots; c++) {
                if (hasBit(crashing, c)) {
                    state[c] = CRASHED;
                    endTick[c] = tick;
                }
            }
        }

        private boolean sharesCell(int c) {
            if (state[c] != ON_TRACK) {
                return false;
            }
            for (int d = 0; d < chariots; d++) {
                if (d != c && state[d] == ON_TRACK && lane[d] == lane[c] && cell[d] == cell[c]) {
                    return true;
                }
            }
            return false;
        }

        int tell(int c, int what) {
            if (!isChariot(c)) {
                return NONE;
            }
            switch (what) {
                case 0:
                    return state[c];
                case 1:
                    return lane[c];
                case 2:
                    return cell[c];
                case 3:
                    return lapsDone[c];
                case 4:
                    return endTick[c];
                case 5:
                    return place[c];
                default:
                    return NONE;
            }
        }
    }

    /** The stones, and the rolls of victors that they allow. */
    private static final class Quarry {
        private static final int MOST_STONES = 6;
        private static final int EVENTS = 4;
        private static final int LAST_YEAR = 40;
        private static final int MOST_YEARS_APART = 5;
        private static final int LETTERS = 26;
        private static final int PLACES = 8;
        private static final int FIRST_SPAN = 12;

        private final int[] event = new int[MOST_STONES];
        private final int[] from = new int[MOST_STONES];
        private final int[] to = new int[MOST_STONES];
        private final int[] firstLetters = new int[MOST_STONES];
        private final int[] lastLetters = new int[MOST_STONES];
        private final int[] town = new int[MOST_STONES];
        /** By stone, as bits: those it is joined with. */
        private final int[] joined = new int[MOST_STONES];
        private int stones = 0;
        private int span = FIRST_SPAN;

        /** By stone, as bits: those it does not agree with. */
        private final int[] unlike = new int[MOST_STONES];
        /** The roll that is being tried. */
        private final int[] year = new int[MOST_STONES];
        /** By stone, as bits: its years that are in some roll. */
        private final long[] seen = new long[MOST_STONES];
        /** NONE until they are counted anew. */
        private int rolls = NONE;
        /** NONE until it is searched anew. */
        private int fewest = NONE;

        private boolean isStone(int s) {
            return s >= 0 && s < stones;
        }

        /** What was found out about the rolls does not hold any more. */
        private void forget() {
            rolls = NONE;
            fewest = NONE;
        }

        int addStone(int ofEvent, int a, int b, int first, int last, int ofTown) {
            if (ofEvent < 0 || ofEvent >= EVENTS || !areYears(a, b) || !isName(first) || !isName(last)
                    || ofTown != NONE && !isTown(ofTown) || stones >= MOST_STONES) {
                return NONE;
            }
            event[stones] = ofEvent;
            from[stones] = a;
            to[stones] = b;
            firstLetters[stones] = first;
            lastLetters[stones] = last;
            town[stones] = ofTown;
            joined[stones] = 0;
            forget();
            return stones++;
        }

        private static boolean areYears(int a, int b) {
            return a >= 0 && b <= LAST_YEAR && b >= a && b - a <= MOST_YEARS_APART;
        }

        private static boolean isName(int letters) {
            for (int i = 0; i < PLACES / 2; i++) {
                if (letterIn(letters, i) > LETTERS) {
                    return false;
                }
            }
            return true;
        }

        /** The letter at a place 0 .. 3 of four, the first one in the highest byte. */
        private static int letterIn(int letters, int i) {
            return letters >>> 24 - 8 * i & 255;
        }

        private int letterOf(int s, int i) {
            int half = PLACES / 2;
            return i < half ? letterIn(firstLetters[s], i) : letterIn(lastLetters[s], i - half);
        }

        int tellLetter(int s, int i) {
            return isStone(s) && i >= 0 && i < PLACES ? letterOf(s, i) : NONE;
        }

        boolean setJoined(int a, int b, boolean are) {
            if (!isStone(a) || !isStone(b) || a == b) {
                return false;
            }
            joined[a] = are ? joined[a] | 1 << b : joined[a] & ~(1 << b);
            joined[b] = are ? joined[b] | 1 << a : joined[b] & ~(1 << a);
            forget();
            return true;
        }

        int setSpan(int v) {
            if (v < 0 || v > LAST_YEAR) {
                return NONE;
            }
            int was = span;
            span = v;
            forget();
            return was;
        }

        int breakUp(int s) {
            if (!isStone(s)) {
                return NONE;
            }
            for (int i = s; i + 1 < stones; i++) {
                event[i] = event[i + 1];
                from[i] = from[i + 1];
                to[i] = to[i + 1];
                firstLetters[i] = firstLetters[i + 1];
                lastLetters[i] = lastLetters[i + 1];
                town[i] = town[i + 1];
                joined[i] = joined[i + 1];
            }
            stones--;
            for (int i = 0; i < stones; i++) {
                joined[i] = withoutBit(joined[i], s);
            }
            forget();
            return stones;
        }

        /** Takes a bit out; those above it move one down. */
        private static int withoutBit(int bits, int i) {
            int below = (1 << i) - 1;
            return bits & below | bits >>> 1 & ~below;
        }

        private boolean isAgreeing(int a, int b) {
            if (town[a] != NONE && town[b] != NONE && town[a] != town[b]) {
                return false;
            }
            for (int i = 0; i < PLACES; i++) {
                int letterOfA = letterOf(a, i);
                int letterOfB = letterOf(b, i);
                if (letterOfA != 0 && letterOfB != 0 && letterOfA != letterOfB) {
                    return false;
                }
            }
            return true;
        }

        int tellAgreeing(int a, int b) {
            if (!isStone(a) || !isStone(b)) {
                return NONE;
            }
            return isAgreeing(a, b) ? 1 : 0;
        }

        private void findUnlike() {
            for (int a = 0; a < stones; a++) {
                unlike[a] = 0;
                for (int b = 0; b < stones; b++) {
                    if (!isAgreeing(a, b)) {
                        unlike[a] |= 1 << b;
                    }
                }
            }
        }

        /** Whether a stone's year goes with those of the stones ahead of it, of those that are kept. */
        private boolean fits(int s, int kept) {
            for (int t = 0; t < s; t++) {
                if (hasBit(kept, t) && !goTogether(s, t)) {
                    return false;
                }
            }
            return true;
        }

        private boolean goTogether(int s, int t) {
            boolean alike = !hasBit(unlike[s], t);
            if (hasBit(joined[s], t) && (!alike || Math.abs(year[s] - year[t]) > span)) {
                return false;
            }
            return alike || event[s] != event[t] || year[s] != year[t];
        }

        /** How many rolls there are with the years that the stones ahead of s have now. */
        private static int countFrom(Quarry q, int s) {
            if (s >= q.stones || s >= MOST_STONES) {
                return 1;
            }
            int found = 0;
            for (int y = q.from[s]; y <= q.to[s]; y++) {
                q.year[s] = y;
                int more = q.fits(s, -1) ? countFrom(q, s + 1) : 0;
                if (more > 0) {
                    q.seen[s] |= 1L << y;
                    found += more;
                }
            }
            return found;
        }

        /** Whether the kept ones of the stones from s on can have years, with those that the ones ahead have now. */
        private static boolean isRollFrom(Quarry q, int s, int kept) {
            if (s >= q.stones || s >= MOST_STONES) {
                return true;
            }
            if (!hasBit(kept, s)) {
                return isRollFrom(q, s + 1, kept);
            }
            for (int y = q.from[s]; y <= q.to[s]; y++) {
                q.year[s] = y;
                if (q.fits(s, kept) && isRollFrom(q, s + 1, kept)) {
                    return true;
                }
            }
            return false;
        }

        int countRolls() {
            if (rolls == NONE) {
                findUnlike();
                Arrays.fill(seen, 0L);
                rolls = countFrom(this, 0);
            }
            return rolls;
        }

        int tellYear(int s, int what) {
            if (!isStone(s) || what < 0 || what > 2 || countRolls() == 0) {
                return NONE;
            }
            int least = NONE;
            int greatest = NONE;
            int many = 0;
            for (int y = from[s]; y <= to[s]; y++) {
                if ((seen[s] >>> y & 1L) != 0) {
                    least = many == 0 ? y : least;
                    greatest = y;
                    many++;
                }
            }
            if (what == 2) {
                return many;
            }
            return what == 0 ? least : greatest;
        }

        int fewestWrong() {
            if (fewest == NONE) {
                findUnlike();
                fewest = findFewest();
            }
            return fewest;
        }

        private int findFewest() {
            int all = (1 << stones) - 1;
            for (int many = 0; many < stones; many++) {
                for (int off = 0; off < all; off++) {
                    if (Integer.bitCount(off) == many && isRollFrom(this, 0, all & ~off)) {
                        return off;
                    }
                }
            }
            return all;
        }
    }
}
