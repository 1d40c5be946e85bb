import java.util.ArrayList;
import java.util.Arrays;
import java.util.List;

/** The document once more, as plainly as can be and without care for cost: whole copies of all that is kept. */
final class Model {
    static final int NONE = -1;
    static final int HIDDEN = -1000000;

    /** What ACTS change. */
    static final class World {
        int clock;
        int announced;
        int done;
        int tired;
        int sings;
        int gain;
        int coins;
        int day;
        int[] received = new int[4];
        int[] titles = new int[6];
        List<int[]> log = new ArrayList<>();

        World copy() {
            World w = new World();
            w.clock = clock;
            w.announced = announced;
            w.done = done;
            w.tired = tired;
            w.sings = sings;
            w.gain = gain;
            w.coins = coins;
            w.day = day;
            w.received = received.clone();
            w.titles = titles.clone();
            w.log = new ArrayList<>(log);
            return w;
        }
    }

    int[] rules;
    int[][] lodgers = {};
    int[][] callers = {};
    World w = new World();
    World image;
    List<World> past = new ArrayList<>();
    List<int[]> heard = new ArrayList<>();
    List<LawTree> laws = new ArrayList<>();
    List<String[]> afternoons = new ArrayList<>();
    int ruling = NONE;
    int whim = 1;

    boolean noHouse() {
        return callers.length == 0;
    }

    boolean no(int caller) {
        return caller < 0 || caller >= callers.length;
    }

    void moveIn(int[] rules, int[][] lodgers, int[][] callers) {
        this.rules = rules;
        this.lodgers = lodgers;
        this.callers = callers;
        w = new World();
        w.coins = rules[2];
        for (int i = 0; i < callers.length; i++) {
            w.titles[i] = callers[i][2];
        }
        image = null;
        past.clear();
        heard.clear();
    }

    int takes(int c, int p, int t, int g, int s, int d) {
        int n = callers[c][0];
        int worth = (n + p * rules[1] + 2 * t) / (s == 1 ? 2 : 1) + g / 2;
        if (ruling != NONE) {
            worth = laws.get(ruling).worth(new int[] {n, p, t, g, s, d});
        }
        return Math.max(1, Math.min(60, worth));
    }

    int takes(World v, int c) {
        return takes(c, callers[c][1], v.titles[c], v.tired, v.sings, v.day);
    }

    boolean act(World v, String act, int n) {
        World x = v.copy();
        switch (act) {
            case "c":
                if (no(n) || (v.announced & 1 << n) != 0) {
                    return false;
                }
                int l = callers[n][5];
                int beats = takes(v, n);
                if (v.clock + beats > rules[0] || v.received[l] >= lodgers[l][1]) {
                    return false;
                }
                v.clock += beats;
                v.announced |= 1 << n;
                v.received[l]++;
                v.tired++;
                if (beats >= callers[n][3]) {
                    v.done++;
                    v.gain = Math.min(9999, v.gain + callers[n][4] + lodgers[l][0]);
                }
                break;
            case "t":
                if (no(n) || v.titles[n] == 3 || v.coins < 2) {
                    return false;
                }
                v.titles[n]++;
                v.coins -= 2;
                break;
            case "drop":
                if (no(n) || v.titles[n] == 0) {
                    return false;
                }
                v.titles[n]--;
                break;
            case "g":
                v.sings = v.sings == 1 ? 0 : 1;
                break;
            case "breath":
                if (v.tired == 0 || v.clock + 3 > rules[0]) {
                    return false;
                }
                v.clock += 3;
                v.tired = v.tired < 2 ? 0 : v.tired - 2;
                break;
            case "h":
                if (n < 1 || n > 20 || v.clock + n > rules[0]) {
                    return false;
                }
                v.clock += n;
                break;
            default:
                if (v.day == 999) {
                    return false;
                }
                v.log.add(0, new int[] {v.done, v.announced, v.clock});
                if (v.log.size() > 60) {
                    v.log.remove(60);
                }
                v.coins = Math.min(999, v.coins + v.done);
                v.day++;
                v.clock = 0;
                v.announced = 0;
                v.done = 0;
                v.tired = 0;
                Arrays.fill(v.received, 0);
        }
        if (v == w) {
            remember(x);
        }
        return true;
    }

    void remember(World x) {
        past.add(x);
        if (past.size() > 40) {
            past.remove(0);
        }
    }

    int byHand(String act, int n) {
        int done = w.done;
        if (noHouse() || !act(w, act, n)) {
            return NONE;
        }
        switch (act) {
            case "c":
                return w.done - done;
            case "t":
            case "drop":
                return w.titles[n];
            case "g":
                return w.sings;
            case "breath":
                return w.tired;
            case "h":
                return w.clock;
            default:
                return w.day;
        }
    }

    int years(int n, long seed) {
        if (noHouse() || n < 1 || n > 30 || w.day + n > 999) {
            return NONE;
        }
        long[] x = {seed};
        for (int i = 0; i < n; i++) {
            World before = w;
            World after = w.copy();
            for (int k = 0; k < 3; k++) {
                act(after, "c", draw(x, callers.length));
            }
            if (draw(x, 10) < whim) {
                int c = draw(x, callers.length);
                after.titles[c] = draw(x, 4);
            }
            act(after, "d", 0);
            w = after;
            remember(before);
        }
        return w.day;
    }

    private static int draw(long[] x, int j) {
        x[0] = x[0] * 6364136223846793005L + 1442695040888963407L;
        return (int) ((x[0] >>> 33) % j);
    }

    int undo() {
        if (past.isEmpty()) {
            return NONE;
        }
        w = past.remove(past.size() - 1);
        return past.size();
    }

    int image() {
        if (noHouse()) {
            return NONE;
        }
        image = w.copy();
        return w.day;
    }

    int back() {
        if (image == null) {
            return NONE;
        }
        w = image.copy();
        past.clear();
        return w.day;
    }

    int log(int i, int what) {
        return i < 0 || i >= w.log.size() || what < 0 || what > 2 ? NONE : w.log.get(i)[what];
    }

    private int stepsDone(World v, int afternoon) {
        int steps = 0;
        for (String step : afternoons.get(afternoon)) {
            if (!act(v, step.substring(0, 1), step.length() > 1 ? step.charAt(1) - '0' : 0)) {
                break;
            }
            steps++;
        }
        return steps;
    }

    int run(int afternoon, int what) {
        if (noHouse() || afternoon < 0 || afternoon >= afternoons.size() || what < 0 || what > 1) {
            return HIDDEN;
        }
        World v = w.copy();
        int steps = stepsDone(v, afternoon);
        return what == 1 ? v.gain - w.gain : steps == afternoons.get(afternoon).length ? NONE : steps;
    }

    int perform(int afternoon) {
        return noHouse() || afternoon < 0 || afternoon >= afternoons.size() ? NONE : stepsDone(w, afternoon);
    }

    int order(int what) {
        if (noHouse() || what < 0 || what > 2) {
            return NONE;
        }
        List<int[]> rows = new ArrayList<>();
        grow(rows, w, 0, 0, 0);
        // what is least of: gain (more is better), clock, length, row
        rows.sort((a, b) -> Arrays.compare(a, b));
        int[] best = rows.get(0);
        return what == 0 ? best[2] == 0 ? NONE : best[3] : what == 1 ? -best[0] : best[1];
    }

    private void grow(List<int[]> rows, World v, int row, int length, int gain) {
        rows.add(new int[] {-gain, v.clock, length, row});
        for (int c = 0; c < callers.length; c++) {
            World x = v.copy();
            if (act(x, "c", c)) {
                int more = x.done > v.done ? callers[c][4] + lodgers[callers[c][5]][0] : 0;
                grow(rows, x, row * 10 + c, length + 1, gain + more);
            }
        }
    }

    int needs(int c) {
        for (int t = 0; t < 4 && !no(c); t++) {
            if (takes(c, callers[c][1], t, w.tired, w.sings, w.day) >= callers[c][3]) {
                return t;
            }
        }
        return NONE;
    }

    int heard(int c, int b, boolean longer) {
        if (no(c) || b < 1 || b > 60 || heard.size() == 10) {
            return NONE;
        }
        heard.add(new int[] {c, b, longer ? 1 : 0});
        return heard.size();
    }

    int hards(int c) {
        if (no(c)) {
            return NONE;
        }
        int bits = 63;
        for (int p = 0; p < 6; p++) {
            for (int[] h : heard) {
                if (h[0] == c && takes(c, p, 0, 0, 0, 0) >= h[1] != (h[2] == 1)) {
                    bits &= ~(1 << p);
                }
            }
        }
        return bits;
    }

    int ask(int b) {
        if (b < 1 || b > 60) {
            return NONE;
        }
        int best = NONE;
        int least = 7;
        for (int c = 0; c < callers.length; c++) {
            int yes = 0;
            int not = 0;
            for (int p = 0; p < 6; p++) {
                if ((hards(c) & 1 << p) != 0) {
                    if (takes(c, p, 0, 0, 0, 0) >= b) {
                        yes++;
                    } else {
                        not++;
                    }
                }
            }
            if (yes + not > 0 && Math.abs(yes - not) < least) {
                least = Math.abs(yes - not);
                best = c;
            }
        }
        return best;
    }

    int apart(int set) {
        if (noHouse() || set < 0 || set >> callers.length != 0 || Integer.bitCount(set) < 2) {
            return NONE;
        }
        for (int unit = 10; unit >= 1; unit -= 9) {
            java.util.Set<Integer> seen = new java.util.TreeSet<>();
            for (int c = 0; c < callers.length; c++) {
                if ((set & 1 << c) != 0) {
                    seen.add(callers[c][6] / unit);
                }
            }
            if (seen.size() == Integer.bitCount(set)) {
                return unit == 10 ? 1 : 2;
            }
        }
        return NONE;
    }

    int game(int one, int other, int x, int y, int what) {
        if (no(one) || no(other) || one == other || x < 0 || x > 3 || y < 0 || y > 3 || what < 0 || what > 1) {
            return HIDDEN;
        }
        int c = what == 0 ? one : other;
        int mine = what == 0 ? x : y;
        int his = what == 0 ? y : x;
        int worth = takes(c, callers[c][1], mine, w.tired + what, w.sings, w.day) >= callers[c][3] ? callers[c][4] : 0;
        return worth - mine - (his > mine ? 2 : 0);
    }

    int rests(int one, int other, int i) {
        if (no(one) || no(other) || one == other) {
            return NONE;
        }
        List<Integer> found = new ArrayList<>();
        for (int xy = 0; xy < 16; xy++) {
            int x = xy / 4;
            int y = xy % 4;
            boolean rest = true;
            for (int z = 0; z < 4; z++) {
                rest &= game(one, other, z, y, 0) <= game(one, other, x, y, 0);
                rest &= game(one, other, x, z, 1) <= game(one, other, x, y, 1);
            }
            if (rest) {
                found.add(10 * x + y);
            }
        }
        return i == NONE ? found.size() : i >= 0 && i < found.size() ? found.get(i) : NONE;
    }

    int odds(int c, int chance) {
        return no(c) || chance < 0 || chance > 100 ? NONE : (int) oddsOfPart(c, chance, 1000000000L, callers[c][1], 0);
    }

    /** Of a part in which some sounds are still to come, and some ahead of them were hard. */
    private long oddsOfPart(int c, int chance, long part, int toCome, int hard) {
        if (toCome == 0) {
            return takes(c, hard, w.titles[c], w.tired, w.sings, w.day) >= callers[c][3] ? part : 0;
        }
        long slip = part * chance / 100;
        return oddsOfPart(c, chance, slip, toCome - 1, hard) + oddsOfPart(c, chance, part - slip, toCome - 1, hard + 1);
    }

    int mean(int c) {
        int sum = 0;
        for (int p = 0; p < 6 && !no(c); p++) {
            sum += 100 * takes(c, p, w.titles[c], w.tired, w.sings, w.day);
        }
        return no(c) ? NONE : sum / 6;
    }

    int all(int what) {
        if (noHouse() || what < 0 || what > 9) {
            return NONE;
        }
        int answer = what == 0 ? rules[0] - w.clock : 0;
        int best = Integer.MIN_VALUE;
        for (int c = 0; c < callers.length; c++) {
            int beats = takes(w, c);
            int[] ranks = {0, beats, -beats, callers[c][4], callers[c][3], w.titles[c]};
            if (what >= 1 && what <= 5 && ranks[what] > best) {
                best = ranks[what];
                answer = c;
            }
            if (what == 7 && act(w.copy(), "c", c) || what == 8 && beats >= callers[c][3]) {
                answer += 1 << c;
            }
            answer += what == 9 ? takes(c, callers[c][1], w.titles[c], w.tired + c, w.sings, w.day) : 0;
        }
        for (int l = 0; l < lodgers.length && what == 6; l++) {
            if (lodgers[l][0] > best) {
                best = lodgers[l][0];
                answer = l;
            }
        }
        return answer;
    }

    int queue(int what) {
        if (noHouse() || what < 0 || what > 1) {
            return NONE;
        }
        List<Integer> waiting = new ArrayList<>();
        for (int c = 0; c < callers.length; c++) {
            if ((w.announced & 1 << c) == 0) {
                waiting.add(c);
            }
        }
        waiting.sort((a, b) -> Integer.compare(takes(w, a), takes(w, b)));
        World v = w.copy();
        int row = waiting.isEmpty() ? NONE : 0;
        int could = 0;
        boolean goesOn = true;
        for (int c : waiting) {
            row = row * 10 + c;
            goesOn = goesOn && act(v, "c", c);
            could += goesOn ? 1 : 0;
        }
        return what == 0 ? row : could;
    }

    int span(int c) {
        if (no(c) || takes(w, c) > rules[0] - w.clock) {
            return NONE;
        }
        int best = 0;
        for (int k = 0; w.titles[c] + k <= 3; k++) {
            if (takes(c, callers[c][1], w.titles[c] + k, w.tired, w.sings, w.day) <= rules[0] - w.clock) {
                best = k;
            }
        }
        return best;
    }

    int count(int what) {
        int[] counts = {callers.length, lodgers.length, laws.size(), afternoons.size(), 0, ruling, w.day, w.clock, w.tired, w.sings,
            w.gain, w.done, whim, heard.size(), w.log.size(), past.size()};
        return what < 0 || what > 15 ? HIDDEN : counts[what];
    }

    int timed(int b) {
        int bits = 0;
        for (int c = 0; c < callers.length; c++) {
            bits |= takes(w, c) == b ? 1 << c : 0;
        }
        return noHouse() || b < 1 || b > 60 ? NONE : bits;
    }

    int whose(int l) {
        int bits = 0;
        for (int c = 0; c < callers.length; c++) {
            bits |= callers[c][5] == l ? 1 << c : 0;
        }
        return l < 0 || l >= lodgers.length ? NONE : bits;
    }
}
