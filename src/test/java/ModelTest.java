import java.util.ArrayList;
import java.util.List;
import java.util.Random;

/** Calls at random, wrong ones among them, on the class and on the model: the answers must be alike. */
public final class ModelTest {
    private static final String[] ITEMS = {"thc", "wp", "nptbwla"};
    private static final int[][] LEAST = {{1, 0, 0}, {0, 0}, {1, 0, 0, 1, 0, 0, 0}};
    private static final int[][] MOST = {{99, 9, 99}, {9, 9}, {9, 5, 3, 30, 9, 3, 99}};
    private static final int[][] PLAIN = {{60, 2, 20}, {2, 3}, {3, 1, 0, 5, 3, 0, 0}};
    private static final String[] STEPS = {"c0", "c1", "c2", "c3", "c4", "c5", "c9", "t0", "t1", "t2", "t5", "g", "h0", "h1", "h4", "h9",
        "d", "d"};

    private final Random random;
    private final NamedCallers x = new NamedCallers();
    private final Model m = new Model();

    private ModelTest(Random random) {
        this.random = random;
    }

    public static void main(String[] args) {
        for (int seed = 0; seed < 1500; seed++) {
            new ModelTest(new Random(seed)).live();
        }
        Checks.finish();
    }

    private void live() {
        if (random.nextInt(10) > 0) {
            house();
        }
        int calls = 100 + random.nextInt(300);
        for (int i = 0; i < calls; i++) {
            switch (random.nextInt(40)) {
                case 0:
                    law();
                    break;
                case 1:
                    afternoon();
                    break;
                case 2:
                    if (random.nextInt(8) == 0) {
                        house();
                    }
                    break;
                default:
                    if (random.nextBoolean()) {
                        act();
                    } else {
                        question();
                    }
            }
        }
        everything();
    }

    private int near(int from, int to) {
        return random.nextInt(50) == 0 ? random.nextInt() : from + random.nextInt(to - from + 1);
    }

    private String items(int sort, int[] values) {
        StringBuilder b = new StringBuilder(blank());
        b.append("slv".charAt(sort));
        int start = random.nextInt(values.length);
        for (int i = 0; i < values.length; i++) {
            int k = (start + i) % values.length;
            values[k] = PLAIN[sort][k];
            if (random.nextInt(3) > 0) {
                values[k] = LEAST[sort][k] + random.nextInt(MOST[sort][k] - LEAST[sort][k] + 1);
                b.append(blank()).append(ITEMS[sort].charAt(k)).append(blank());
                b.append(values[k] < 10 && random.nextInt(6) == 0 ? "0" : "").append(values[k]);
            }
        }
        return b.append(blank()).toString();
    }

    private String blank() {
        return random.nextInt(30) == 0 ? " " : "";
    }

    private void house() {
        int[] rules = new int[3];
        int[][] lodgers = new int[1 + random.nextInt(4)][2];
        int[][] callers = new int[1 + random.nextInt(6)][7];
        List<String> clauses = new ArrayList<>();
        for (int[] lodger : lodgers) {
            clauses.add(items(1, lodger));
        }
        int place = 0;
        for (int[] caller : callers) {
            String clause = items(2, caller);
            while (caller[5] >= lodgers.length) {
                clause = items(2, caller);
            }
            // anywhere behind the caller ahead, so that their numbers stay
            place += random.nextInt(clauses.size() - place + 1);
            clauses.add(place, clause);
            place++;
        }
        clauses.add(random.nextInt(clauses.size() + 1), items(0, rules));
        String text = String.join(";", clauses);
        if (text.length() <= 240) {
            m.moveIn(rules, lodgers, callers);
            Checks.due("text(0) of " + text, Checks.tell(x, 0, text), callers.length);
        }
    }

    private void law() {
        LawTree tree = new LawTree(random, 1 + random.nextInt(3));
        if (tree.text().length() <= 240) {
            boolean room = m.laws.size() < 4;
            Checks.due("text(1)", Checks.tell(x, 1, tree.text()), room ? m.laws.size() : -1);
            if (room) {
                m.laws.add(tree);
            }
            x.end(0);
        }
    }

    private void afternoon() {
        String[] steps = new String[1 + random.nextInt(16)];
        for (int i = 0; i < steps.length; i++) {
            steps[i] = STEPS[random.nextInt(STEPS.length)];
        }
        boolean room = m.afternoons.size() < 4;
        Checks.due("text(2)", Checks.tell(x, 2, String.join(";", steps)), room ? m.afternoons.size() : -1);
        if (room) {
            m.afternoons.add(steps);
        }
        x.end(0);
    }

    private void act() {
        int c = near(-1, m.callers.length);
        switch (random.nextInt(16)) {
            case 0:
                Checks.due("title", x.title(c), m.byHand("t", c));
                break;
            case 1:
                Checks.due("drop", x.drop(c), m.byHand("drop", c));
                break;
            case 2:
                Checks.due("sing", x.sing(), m.byHand("g", 0));
                break;
            case 3:
                Checks.due("breath", x.breath(), m.byHand("breath", 0));
                break;
            case 4:
                int n = near(-1, 22);
                Checks.due("hold", x.hold(n), m.byHand("h", n));
                break;
            case 5:
            case 6:
                Checks.due("day", x.day(), m.byHand("d", 0));
                break;
            case 7:
                int years = near(-1, random.nextInt(4) == 0 ? 31 : 4);
                long seed = random.nextLong();
                Checks.due("years", x.years(years, seed), m.years(years, seed));
                break;
            case 8:
            case 9:
                Checks.due("undo", x.undo(), m.undo());
                break;
            case 10:
                int a = near(-1, 4);
                Checks.due("perform", x.perform(a), m.perform(a));
                break;
            case 11:
                imageOrBack();
                break;
            case 12:
                settings();
                break;
            default:
                Checks.due("announce", x.announce(c), m.byHand("c", c));
        }
    }

    private void imageOrBack() {
        if (random.nextInt(3) == 0) {
            Checks.due("image", x.image(), m.image());
        } else if (random.nextInt(3) == 0) {
            Checks.due("back", x.back(), m.back());
        }
    }

    private void settings() {
        int c = near(-1, m.callers.length);
        int v = near(-1, 10);
        int law = near(-2, 4);
        switch (random.nextInt(3)) {
            case 0:
                boolean whim = v >= 0 && v <= 9 && v != m.whim;
                Checks.due("whim", x.whim(v), whim);
                m.whim = whim ? v : m.whim;
                break;
            case 1:
                boolean told = law >= -1 && law < m.laws.size();
                Checks.due("law", x.law(law), told);
                m.ruling = told ? law : m.ruling;
                break;
            default:
                int b = near(0, random.nextBoolean() ? 61 : 15);
                boolean longer = random.nextBoolean();
                Checks.due("heard", x.heard(c, b, longer), m.heard(c, b, longer));
        }
    }

    private void question() {
        int c = near(-1, m.callers.length);
        int other = near(-1, m.callers.length);
        int what = near(-1, 10);
        int b = near(0, random.nextBoolean() ? 61 : 15);
        int one = near(-1, 4);
        int two = near(-1, 4);
        int few = near(-1, 2);
        int afternoon = near(-1, m.afternoons.size());
        Checks.due("count", x.count(what), m.count(what));
        switch (random.nextInt(12)) {
            case 0:
                Checks.due("run", x.run(afternoon, few), m.run(afternoon, few));
                break;
            case 1:
                Checks.due("order", x.order(few), m.order(few));
                break;
            case 2:
                Checks.due("needs", x.needs(c), m.needs(c));
                Checks.due("timed", x.timed(b), m.timed(b));
                break;
            case 3:
                Checks.due("hards", x.hards(c), m.hards(c));
                Checks.due("ask", x.ask(b), m.ask(b));
                break;
            case 4:
                int set = near(-1, 70);
                Checks.due("apart", x.apart(set), m.apart(set));
                break;
            case 5:
                Checks.due("game", x.game(c, other, one, two, few), m.game(c, other, one, two, few));
                break;
            case 6:
                Checks.due("rests", x.rests(c, other, one), m.rests(c, other, one));
                break;
            case 7:
                int chance = near(-1, 101);
                Checks.due("odds", x.odds(c, chance), m.odds(c, chance));
                break;
            case 8:
                Checks.due("mean", x.mean(c), m.mean(c));
                Checks.due("span", x.span(c), m.span(c));
                break;
            case 9:
                Checks.due("all", x.all(what), m.all(what));
                break;
            case 10:
                Checks.due("queue", x.queue(few), m.queue(few));
                break;
            default:
                Checks.due("log", x.log(one, few), m.log(one, few));
        }
    }

    private void everything() {
        for (int i = -1; i < 17; i++) {
            Checks.due("count(" + i + ")", x.count(i), m.count(i));
            Checks.due("all(" + i + ")", x.all(i), m.all(i));
            Checks.due("queue(" + i + ")", x.queue(i), m.queue(i));
            Checks.due("order(" + i + ")", x.order(i), m.order(i));
        }
        for (int i = 0; i < m.callers.length; i++) {
            for (int k = 0; k < 7; k++) {
                Checks.due("caller", x.caller(i, k), k == 2 ? m.w.titles[i] : m.callers[i][k]);
            }
            Checks.due("caller", x.caller(i, 7), m.w.announced >> i & 1);
            Checks.due("name", x.name(i, 0), m.takes(m.w, i));
            Checks.due("name", x.name(i, 1), m.takes(m.w, i) >= m.callers[i][3] ? 1 : 0);
            for (int s = 0; s < 2; s++) {
                int beats = m.takes(i, m.callers[i][1], m.w.titles[i], m.w.tired, 1 - s, m.w.day);
                Checks.due("sung", x.sung(i, s), beats);
            }
        }
        for (int i = 0; i < m.lodgers.length; i++) {
            Checks.due("lodger", x.lodger(i, 0), m.lodgers[i][0]);
            Checks.due("lodger", x.lodger(i, 1), m.lodgers[i][1]);
            Checks.due("lodger", x.lodger(i, 2), m.lodgers[i][1] - m.w.received[i]);
            Checks.due("whose", x.whose(i), m.whose(i));
        }
        for (int i = 0; i < 62; i++) {
            for (int what = 0; what < 3; what++) {
                Checks.due("log", x.log(i, what), m.log(i, what));
            }
        }
        if (!m.noHouse()) {
            Checks.due("rule", x.rule(0), m.rules[0]);
            Checks.due("rule", x.rule(1), m.rules[1]);
            Checks.due("rule", x.rule(2), m.w.coins);
        }
    }
}
