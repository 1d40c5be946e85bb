/** Edges of afternoons: Terms 1 and 3, promises 21 to 23. Each sentence has a test of its own. */
public final class AfternoonEdgeTest {
    private static final int NONE = NamedCallers.NONE;
    private static final int HIDDEN = NamedCallers.HIDDEN;

    public static void main(String[] args) {
        fourAtMost();
        oneToSixteenSteps();
        seventeenth();
        digits();
        stepThatIsNotThere();
        stepsTold();
        behindHowMany();
        gainOfIt();
        noDayBehind999();
        doneUpToThere();
        moreThanFortyActs();
        withoutHouse();
        Checks.finish();
    }

    private static void fourAtMost() {
        Edges.terms(1, "AFTERNOONS (4 at most) are TEXTS");
        NamedCallers x = new NamedCallers();
        for (int i = 0; i < 4; i++) {
            Checks.due("text(2)", Checks.tell(x, 2, "h" + (i + 1)), i);
            Checks.due("afternoons", x.count(3), i + 1);
        }
        Checks.due("a fifth", Checks.tell(x, 2, "h9"), NONE);
        Checks.due("afternoons", x.count(3), 4);
        Checks.due("it stays on the tape", x.count(4), 2);
        Checks.due("it has no fault", x.fault(2), NONE);
        for (int i = 0; i < 4; i++) {
            Checks.due("step(" + i + ", 0, 1)", x.step(i, 0, 1), i + 1);
        }
        Checks.due("step(4, 0, 1)", x.step(4, 0, 1), HIDDEN);
    }

    private static void oneToSixteenSteps() {
        Edges.terms(1, "STEPS with ; between, 1 to 16");
        Checks.fault(2, "", 0);
        Checks.fault(2, ";", 0);
        Checks.fault(2, "g;", 2);
        Checks.fault(2, ";g", 0);
        Checks.fault(2, "g;;g", 2);
        Checks.fault(2, "gg", 1);
        for (int steps = 1; steps <= 16; steps++) {
            NamedCallers x = new NamedCallers();
            Checks.due("text(2)", Checks.tell(x, 2, Edges.row(steps - 1, "g") + (steps > 1 ? ";" : "") + "h7"), 0);
            Checks.due("the last step", x.step(0, steps - 1, 1), 7);
            Checks.due("no step behind it", x.step(0, steps, 0), HIDDEN);
        }
    }

    private static void seventeenth() {
        Edges.terms(1, "the ; ahead of a 17th STEP");
        String sixteen = Edges.row(16, "d");
        Checks.fault(2, sixteen, NONE);
        Checks.fault(2, sixteen + " ", NONE);
        Checks.fault(2, sixteen + ";", 31);
        Checks.fault(2, sixteen + ";d", 31);
        Checks.fault(2, sixteen + ";x", 31);
        Checks.fault(2, sixteen + "  ;d", 33);
        Checks.fault(2, sixteen + "d", 31);
        Checks.fault(2, Edges.row(16, "h9") + ";h9", 47);
        Checks.fault(2, Edges.row(15, "h9") + ";h", 46);
        Checks.fault(2, Edges.row(80, "c0"), 47);
    }

    private static void digits() {
        Edges.terms(1, "c and a digit (the CALLER is ANNOUNCED), t and a digit (he assumes a TITLE)");
        for (char kind : new char[] {'c', 't', 'h'}) {
            for (char sign = 1; sign < 256; sign++) {
                boolean digit = sign >= '0' && sign <= '9';
                Checks.fault(2, "" + kind + sign, digit ? NONE : sign == ' ' ? 2 : 1);
            }
            Checks.fault(2, kind + "00", 2);
            Checks.fault(2, kind + " 0", NONE);
            Checks.fault(2, kind + "", 1);
            Checks.fault(2, kind + ";g", 1);
        }
        Edges.terms(1, "g (she SINGS, or does not any more), h and a digit (one with no name HOLDS UP so many BEATS), d (a DAY goes by)");
        for (char kind : new char[] {'g', 'd'}) {
            Checks.fault(2, kind + "", NONE);
            Checks.fault(2, kind + "0", 1);
            Checks.fault(2, kind + " 0", 2);
        }
    }

    private static void stepThatIsNotThere() {
        Edges.terms(1, "(What a STEP tells that is not there is no FAULT: the STEP can't be.)");
        String[] houses = {"l;v", "lp9;v;v;v;v;v;v"};
        for (String house : houses) {
            for (int digit = 0; digit <= 9; digit++) {
                NamedCallers x = Checks.house(house);
                boolean there = digit < x.count(0);
                Checks.due("text(2)", Checks.tell(x, 2, "g;c" + digit), 0);
                Checks.due("text(2)", Checks.tell(x, 2, "g;t" + digit), 1);
                Checks.due("run of c" + digit, x.run(0, 0), there ? NONE : 1);
                Checks.due("run of t" + digit, x.run(1, 0), there ? NONE : 1);
            }
        }
        // 1 .. 20 BEATS are held up
        NamedCallers x = Checks.house("l;v");
        Checks.tell(x, 2, "h0");
        Checks.tell(x, 2, "h1");
        Checks.due("h0", x.run(0, 0), 0);
        Checks.due("h1", x.run(1, 0), NONE);
    }

    private static void stepsTold() {
        Edges.promise(21, "0 what (0 c, 1 t, 2 g, 3 h, 4 d), 1 its digit (NONE). HIDDEN: no such ones.");
        NamedCallers x = new NamedCallers();
        Checks.due("no afternoon", x.step(0, 0, 0), HIDDEN);
        Checks.tell(x, 2, "c9;t0;g;h5;d");
        int[] digits = {9, 0, NONE, 5, NONE};
        for (int i = 0; i < 5; i++) {
            Checks.due("step(0, " + i + ", 0)", x.step(0, i, 0), i);
            Checks.due("step(0, " + i + ", 1)", x.step(0, i, 1), digits[i]);
        }
        int[] extremes = {Integer.MIN_VALUE, -1, Integer.MAX_VALUE};
        for (int wrong : extremes) {
            Checks.due("step(" + wrong + ", 0, 0)", x.step(wrong, 0, 0), HIDDEN);
            Checks.due("step(0, " + wrong + ", 0)", x.step(0, wrong, 0), HIDDEN);
            Checks.due("step(0, 0, " + wrong + ")", x.step(0, 0, wrong), HIDDEN);
        }
        Checks.due("step(1, 0, 0)", x.step(1, 0, 0), HIDDEN);
        Checks.due("step(0, 5, 0)", x.step(0, 5, 0), HIDDEN);
        Checks.due("step(0, 0, 2)", x.step(0, 0, 2), HIDDEN);
    }

    private static void run(String house, String afternoon, int behind, int gain) {
        NamedCallers x = Checks.house(house);
        Checks.due("text(2)", Checks.tell(x, 2, afternoon), 0);
        Checks.due("run(0, 0) of " + afternoon, x.run(0, 0), behind);
        Checks.due("run(0, 1) of " + afternoon, x.run(0, 1), gain);
    }

    private static void behindHowMany() {
        Edges.terms(3, "RUN of an AFTERNOON told: behind how many STEPS the first is that can't be");
        run("l;v", "c1", 0, 0);
        run("l;v", "c0;c0", 1, 5);
        run("l;v", Edges.row(15, "g") + ";c1", 15, 0);
        run("l;v", Edges.row(16, "g"), NONE, 0);
        // each reason why one can't be
        run("st5;l;v", "c0", NONE, 5);
        run("st4;l;v", "c0", 0, 0);
        run("st4;l;v", "g;c0", NONE, 0);
        run("lp0;v", "c0", 0, 0);
        run("lp1;v;v", "c0;c1", 1, 5);
        run("lp1;v;v", "c0;d;c1", NONE, 10);
        run("sc1;l;v", "t0", 0, 0);
        run("sc2;l;v", "t0", NONE, 0);
        run("sc9;l;vt2", "t0;t0", 1, 0);
        run("st9;l;v", "h9", NONE, 0);
        run("st8;l;v", "h9", 0, 0);
        run("l;v", "h0", 0, 0);
        // behind the first that can't be nothing is looked at
        run("l;v;v", "c0;c9;c1", 1, 5);
        Edges.promise(22, "behind how many (0; NONE: all can be), GAIN (1). HIDDEN: no such ones, no HOUSE.");
        NamedCallers x = Checks.house("l;v");
        Checks.due("no afternoon", x.run(0, 0), HIDDEN);
        Checks.tell(x, 2, "g");
        Checks.due("run(0, 0)", x.run(0, 0), NONE);
        int[] wrong = {Integer.MIN_VALUE, -1, 2, Integer.MAX_VALUE};
        for (int w : wrong) {
            Checks.due("run(" + w + ", 0)", x.run(w, 0), HIDDEN);
            Checks.due("run(0, " + w + ")", x.run(0, w), HIDDEN);
        }
        Checks.due("run(1, 0)", x.run(1, 0), HIDDEN);
    }

    private static void gainOfIt() {
        Edges.terms(3, "how much GAIN comes of it");
        run("lw9;vw9", "c0", NONE, 18);
        run("lw0;vw0", "c0", NONE, 0);
        run("l;vb6", "c0", NONE, 0);
        run("l;v;v", "c0;c1;c1", 2, 10);
        // of it alone, not of what is ahead
        NamedCallers x = Checks.house("l;v;v");
        Checks.tell(x, 2, "c1");
        x.announce(0);
        Checks.due("run(0, 1)", x.run(0, 1), 5);
        Checks.due("nothing has changed", x.count(10), 5);
        Checks.due("nothing has changed", x.count(15), 1);
    }

    private static void noDayBehind999() {
        Edges.terms(3, "DAYS go on behind 999, but not in RUN");
        NamedCallers x = Checks.house("l;v");
        Checks.tell(x, 2, "d");
        Checks.tell(x, 2, "d;d");
        for (int i = 0; i < 33; i++) {
            x.years(30, i);
        }
        x.years(8, 1);
        Checks.due("the day", x.count(6), 998);
        Checks.due("d on day 998", x.run(0, 0), NONE);
        Checks.due("d;d on day 998", x.run(1, 0), 1);
        Checks.due("perform of d;d", x.perform(1), 1);
        Checks.due("the day", x.count(6), 999);
        Checks.due("d on day 999", x.run(0, 0), 0);
        Checks.due("perform of d", x.perform(0), 0);
        Checks.due("the day", x.count(6), 999);
    }

    private static void doneUpToThere() {
        Edges.terms(3, "DO: its STEPS as ACTS, up to there.");
        NamedCallers x = Checks.house("l;v;v");
        Checks.tell(x, 2, "c1;t0;g;h3;d;c0;c0;d");
        Checks.tell(x, 2, "c0;d");
        Checks.due("perform(0)", x.perform(0), 6);
        Checks.due("six acts", x.count(15), 6);
        Checks.due("the day", x.count(6), 1);
        Checks.due("coins: 2 for a title, one done", x.rule(2), 19);
        Checks.due("titles", x.caller(0, 2), 1);
        Checks.due("she sings", x.count(9), 1);
        Checks.due("the log", x.log(0, 2), 8);
        // 3, 2 and 2 by 2, cut
        Checks.due("the clock", x.count(7), 3);
        Checks.due("none can be", x.perform(1), 0);
        Checks.due("no act more", x.count(15), 6);
        for (int i = 5; i >= 0; i--) {
            Checks.due("undo", x.undo(), i);
        }
        Checks.due("the clock", x.count(7), 0);
        Edges.promise(23, "NONE: no such AFTERNOON, no HOUSE.");
        int[] wrong = {Integer.MIN_VALUE, -1, 2, Integer.MAX_VALUE};
        for (int w : wrong) {
            Checks.due("perform(" + w + ")", x.perform(w), NONE);
        }
        Checks.due("no act", x.count(15), 0);
    }

    private static void moreThanFortyActs() {
        Edges.terms(2, "the latest 40 can be UNDONE one by one");
        NamedCallers x = Checks.house("l;v");
        Checks.tell(x, 2, Edges.row(16, "h1"));
        Checks.due("perform", x.perform(0), 16);
        Checks.due("perform", x.perform(0), 16);
        Checks.due("acts", x.count(15), 32);
        Checks.due("perform", x.perform(0), 16);
        Checks.due("acts", x.count(15), 40);
        Checks.due("perform up to the last beat", x.perform(0), 12);
        Checks.due("the clock", x.count(7), 60);
        for (int i = 39; i >= 0; i--) {
            Checks.due("undo", x.undo(), i);
        }
        Checks.due("undo", x.undo(), NONE);
        Checks.due("the clock", x.count(7), 20);
    }

    private static void withoutHouse() {
        Edges.promise(22, "no HOUSE");
        NamedCallers x = new NamedCallers();
        Checks.tell(x, 2, "g");
        Checks.due("run(0, 0)", x.run(0, 0), HIDDEN);
        Checks.due("run(0, 1)", x.run(0, 1), HIDDEN);
        Edges.promise(23, "no HOUSE");
        Checks.due("perform(0)", x.perform(0), NONE);
        Checks.due("she does not sing", x.count(9), 0);
        Edges.promise(21, "A STEP of an AFTERNOON");
        Checks.due("a step is told without a house", x.step(0, 0, 0), 2);
    }
}
