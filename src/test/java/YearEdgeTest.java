/** Edges of years, whims and images: Terms 4, promises 10, 18, 41 and 42. Each sentence has a test of its own. */
public final class YearEdgeTest {
    private static final int NONE = NamedCallers.NONE;
    /** All who are drawn can be announced in it. */
    private static final String OPEN = "st99;lp9;v;v;v;v;v;v";

    public static void main(String[] args) {
        oneToThirtyDays();
        notBehind999();
        threeTimes();
        ifHeCanBe();
        whimBounds();
        belowWhim();
        titlesForNothing();
        behindTheCalls();
        seedsGoRound();
        fromTheSeed();
        oneActEach();
        imageKeeps();
        imageInstead();
        noActBehindBack();
        imageOfThisHouse();
        Checks.finish();
    }

    private static void oneToThirtyDays() {
        Edges.terms(4, "YEARS by a seed: n (1 .. 30) DAYS");
        int[] wrong = {Integer.MIN_VALUE, -1, 0, 31, Integer.MAX_VALUE};
        NamedCallers x = Checks.house(OPEN);
        for (int n : wrong) {
            Checks.due("years(" + n + ")", x.years(n, 1), NONE);
        }
        Checks.due("the day", x.count(6), 0);
        Checks.due("acts", x.count(15), 0);
        Checks.due("years(1)", x.years(1, 1), 1);
        Checks.due("years(30)", x.years(30, 1), 31);
        Checks.due("years(29)", x.years(29, 1), 60);
        Checks.due("the day", x.count(6), 60);
        Checks.due("no house", new NamedCallers().years(1, 1), NONE);
    }

    private static void notBehind999() {
        Edges.promise(18, "NONE: no HOUSE, out of bounds, beyond 999.");
        NamedCallers x = Checks.house(OPEN);
        for (int i = 0; i < 32; i++) {
            x.years(30, i);
        }
        x.years(10, 1);
        Checks.due("the day", x.count(6), 970);
        x.announce(2);
        Checks.due("30 days would be 1,000", x.years(30, 1), NONE);
        Checks.due("the day", x.count(6), 970);
        Checks.due("nothing is done of it", x.caller(2, 7), 1);
        Checks.due("29 days", x.years(29, 1), 999);
        Checks.due("one more", x.years(1, 1), NONE);
        x.undo();
        Checks.due("undone", x.count(6), 998);
        Checks.due("two more", x.years(2, 1), NONE);
        Checks.due("one more", x.years(1, 1), 999);
    }

    private static void logged(String house, int whim, long seed, int what, int[] want) {
        NamedCallers x = Checks.house(house);
        if (whim != 1) {
            Checks.due("whim", x.whim(whim), true);
        }
        Checks.due("years", x.years(want.length, seed), want.length);
        for (int i = 0; i < want.length; i++) {
            Checks.due("log of day " + i + " by seed " + seed, x.log(want.length - 1 - i, what), want[i]);
        }
    }

    private static void threeTimes() {
        Edges.terms(4, "ahead of each three times: a draw of how many CALLERS there are: he is ANNOUNCED");
        // worked out beside the class: the draws of seed 0 are 5 0 1, 6 of 10; 2 5 0, 9 of 10; ..
        logged(OPEN, 9, 0, 1, new int[] {35, 37, 3, 35});
        logged(OPEN, 0, 20261118, 1, new int[] {42, 17, 37, 42, 34, 28, 3, 22, 7, 19, 20, 11, 25, 14, 24, 49, 5, 48, 36, 24, 22, 56, 8, 13,
            25, 12, 41, 8, 7, 10});
        logged(OPEN, 1, 20261118, 1, new int[] {42, 17, 37, 42, 34, 28, 3, 22, 7, 19, 22, 25, 28, 10, 49, 5, 17, 20, 12, 21, 48, 10, 8, 22,
            9, 37, 41, 13, 3, 12});
        // of one caller the draw is always he
        logged("l;v", 0, 5, 1, new int[] {1, 1, 1});
    }

    private static void ifHeCanBe() {
        Edges.terms(4, "he is ANNOUNCED, if he can be");
        // once a day, as long as there are beats, and while his lodger has patience
        logged("l;v", 0, 5, 2, new int[] {5, 5});
        logged("st9;lp9;v;v;v;v;v;v", 9, 0, 1, new int[] {32, 4, 2, 2});
        logged("st10;lp9;v;v;v;v;v;v", 9, 0, 1, new int[] {33, 5, 3, 2});
        logged("st99;lp1;v;v;v;v;v;v", 9, 0, 1, new int[] {32, 4, 2, 2});
        logged("st99;lp2;v;v;v;v;v;v", 9, 0, 1, new int[] {33, 36, 3, 3});
        logged("st99;lp0;v;v;v;v;v;v", 9, 0, 1, new int[] {0, 0, 0, 0});
    }

    private static void whimBounds() {
        Edges.terms(4, "WHIM (0 .. 9; 1 at first)");
        NamedCallers x = new NamedCallers();
        Checks.due("at first", x.count(12), 1);
        int[] wrong = {Integer.MIN_VALUE, -1, 10, Integer.MAX_VALUE};
        for (int v : wrong) {
            Checks.due("whim(" + v + ")", x.whim(v), false);
        }
        Checks.due("as it was", x.count(12), 1);
        for (int v = 0; v <= 9; v++) {
            NamedCallers y = new NamedCallers();
            Checks.due("whim(" + v + ")", y.whim(v), v != 1);
            Checks.due("whim", y.count(12), v);
        }
        Edges.promise(10, "False: out of bounds, it is so.");
        Checks.due("it is so", x.whim(1), false);
        Checks.due("whim(2)", x.whim(2), true);
        Checks.due("it is so", x.whim(2), false);
        Checks.due("whim(1)", x.whim(1), true);
    }

    private static void belowWhim() {
        Edges.terms(4, "then a draw of 10 below WHIM");
        // seed 0 draws 6 of 10, then caller 5 and 3 titles; seed 1 draws 0, then caller 0 and 3; seed 6 draws 9
        for (int whim = 0; whim <= 9; whim++) {
            Checks.due("6 below " + whim, titlesBy(whim, 0, 5), whim > 6 ? 3 : 0);
            Checks.due("0 below " + whim, titlesBy(whim, 1, 0), whim > 0 ? 3 : 0);
            int sum = 0;
            for (int caller = 0; caller < 6; caller++) {
                sum += titlesBy(whim, 6, caller);
            }
            Checks.due("9 is never below " + whim, sum, 0);
        }
    }

    private static int titlesBy(int whim, long seed, int caller) {
        NamedCallers x = Checks.house(OPEN);
        x.whim(whim);
        x.years(1, seed);
        return x.caller(caller, 2);
    }

    private static void titlesForNothing() {
        Edges.terms(4, "a draw of how many CALLERS, a draw of 4: so many TITLES he has then (for nothing)");
        // seed -1: caller 0 has 3 then, caller 5 has 2, then 0
        NamedCallers x = Checks.house("st99c0;lp0;v;v;v;v;v;vt1");
        x.whim(9);
        x.years(1, -1);
        Checks.due("three", x.caller(0, 2), 3);
        Checks.due("told", x.caller(5, 2), 1);
        x.undo();
        Checks.due("undone", x.caller(0, 2), 0);
        x.years(2, -1);
        Checks.due("two", x.caller(5, 2), 2);
        x.undo();
        x.undo();
        x.years(3, -1);
        Checks.due("three", x.caller(0, 2), 3);
        Checks.due("none", x.caller(5, 2), 0);
        Checks.due("for nothing", x.rule(2), 0);
        int[] want = {3, 1, 1, 1, 1, 3};
        NamedCallers y = Checks.house(OPEN);
        y.whim(9);
        y.years(30, 20261118);
        for (int i = 0; i < 6; i++) {
            Checks.due("titles of " + i, y.caller(i, 2), want[i]);
        }
    }

    private static void behindTheCalls() {
        Edges.terms(4, "three times: a draw of how many CALLERS there are: he is ANNOUNCED, if he can be; then a draw of 10");
        // seed 1: 2 3 0, then 0 has 3 titles; 2 4 3, then 3 has 2; 0 0 2, then 4 has 3; 4 3 1
        logged(OPEN, 9, 1, 2, new int[] {5 + 5 + 6, 5 + 5 + 6, 11 + 5, 11 + 9 + 6});
    }

    private static void seedsGoRound() {
        Edges.terms(4, "(64 bits, going round)");
        logged(OPEN, 9, 1, 1, new int[] {13, 28, 5, 26});
        logged(OPEN, 9, 123456789, 1, new int[] {49, 34, 37, 13});
        logged(OPEN, 9, Long.MAX_VALUE, 1, new int[] {11, 38, 17, 28});
        Edges.terms(4, "(x shifted right by 33, without sign) modulo j");
        logged(OPEN, 9, -1, 1, new int[] {50, 56, 20, 7});
        logged(OPEN, 9, Long.MIN_VALUE, 1, new int[] {24, 25, 52, 41});
    }

    private static void fromTheSeed() {
        Edges.terms(4, "x, at first the seed, becomes x times 6364136223846793005 and 1442695040888963407");
        NamedCallers x = Checks.house(OPEN);
        x.whim(9);
        // each call begins with its own seed
        x.years(1, 0);
        x.years(1, 0);
        Checks.due("the second call", x.log(0, 1), 35);
        Checks.due("the first call", x.log(1, 1), 35);
        // within a call it goes on
        x.years(2, 0);
        Checks.due("the second day", x.log(0, 1), 37);
    }

    private static void oneActEach() {
        Edges.terms(4, "Each DAY with what is ahead of it is one ACT.");
        NamedCallers x = Checks.house(OPEN);
        x.whim(9);
        x.years(3, 0);
        Checks.due("acts", x.count(15), 3);
        x.years(30, 0);
        Checks.due("acts", x.count(15), 33);
        x.years(30, 0);
        Checks.due("acts", x.count(15), 40);
        int gain = x.count(10);
        Checks.due("undo", x.undo(), 39);
        Checks.due("the day", x.count(6), 62);
        Checks.due("nobody was announced ahead of it", x.count(8) + x.count(7), 0);
        x.undo();
        for (int i = 37; i >= 0; i--) {
            Checks.due("undo", x.undo(), i);
        }
        Checks.due("the day", x.count(6), 23);
        Checks.due("gain is as it was", x.count(10) < gain, true);
        Checks.due("no more", x.undo(), NONE);
        // a day that had begun by hand
        NamedCallers y = Checks.house(OPEN);
        y.announce(3);
        y.hold(4);
        y.years(1, 0);
        Checks.due("the log has what was ahead", y.log(0, 1), 35 + 8);
        Checks.due("undo", y.undo(), 2);
        Checks.due("the clock", y.count(7), 9);
        Checks.due("announced", y.caller(3, 7), 1);
    }

    private static final Edges.Calls LIVED = x -> {
        Checks.tell(x, 0, "sc9;lp4;lp4;v;vt2;vl1;vb30");
        x.announce(1);
        x.announce(3);
        x.day();
        x.hold(3);
        x.day();
        x.announce(0);
        x.announce(3);
        x.sing();
        x.title(0);
        x.hold(4);
    };

    private static void imageKeeps() {
        Edges.terms(4, "An IMAGE keeps the CLOCK, who was ANNOUNCED, calls received, what was DONE, TIRED, SINGING, TITLES, GAIN, COINS, the DAY, the LOG");
        // straight back, back behind other acts, back behind undone ones: all alike
        String kept = Portrait.of(x -> {
            LIVED.on(x);
            x.image();
            x.back();
        });
        String changed = Portrait.of(x -> {
            LIVED.on(x);
            x.image();
            x.announce(1);
            x.announce(2);
            x.drop(1);
            x.sing();
            x.hold(9);
            x.breath();
            x.day();
            x.title(2);
            x.years(30, 4);
            x.years(30, 5);
            x.back();
        });
        String undone = Portrait.of(x -> {
            LIVED.on(x);
            x.image();
            for (int i = 0; i < 11; i++) {
                x.undo();
            }
            x.back();
        });
        String otherwise = Portrait.of(x -> {
            LIVED.on(x);
            x.image();
            for (int i = 0; i < 11; i++) {
                x.undo();
            }
            x.day();
            x.hold(20);
            x.day();
            x.back();
        });
        String longBehind = Portrait.of(x -> {
            LIVED.on(x);
            x.image();
            for (int i = 0; i < 7; i++) {
                x.years(30, i);
            }
            x.back();
        });
        Checks.due("behind other days instead of undone ones", otherwise.equals(kept), true);
        Checks.due("behind more days than a log holds", longBehind.equals(kept), true);
        NamedCallers x = Edges.after(LIVED);
        Checks.due("image()", x.image(), 2);
        x.day();
        Checks.due("back()", x.back(), 2);
        int[] want = {2, 14, 2, 1, 10, 1};
        for (int i = 0; i < want.length; i++) {
            Checks.due("count(" + (6 + i) + ")", x.count(6 + i), want[i]);
        }
        Checks.due("the log is so long", x.count(14), 2);
        int[][] log = {{0, 0, 3}, {1, 2 + 8, 9 + 5}};
        for (int i = 0; i < 2; i++) {
            for (int what = 0; what < 3; what++) {
                Checks.due("log(" + i + ", " + what + ")", x.log(i, what), log[i][what]);
            }
        }
        int[] titles = {1, 2, 0, 0};
        int[] announced = {1, 0, 0, 1};
        for (int i = 0; i < 4; i++) {
            Checks.due("titles", x.caller(i, 2), titles[i]);
            Checks.due("announced", x.caller(i, 7), announced[i]);
        }
        Checks.due("calls received", x.lodger(0, 2), 2);
        // 9 told, one done on day 0, 2 for a title
        Checks.due("coins", x.rule(2), 8);
        Checks.due("behind acts", changed.equals(kept), true);
        Checks.due("behind undone acts", undone.equals(kept), true);
    }

    private static void imageInstead() {
        Edges.promise(41, "An IMAGE (instead of the one ahead): the DAY. NONE: no HOUSE.");
        NamedCallers x = new NamedCallers();
        Checks.due("no house", x.image(), NONE);
        Checks.due("no house", x.back(), NONE);
        Checks.tell(x, 0, "l;v");
        Checks.due("what was refused is no image", x.back(), NONE);
        Checks.due("image()", x.image(), 0);
        x.day();
        Checks.due("another", x.image(), 1);
        x.day();
        Checks.due("back()", x.back(), 1);
        Checks.due("back() again: it is still there", x.back(), 1);
        Checks.due("an image is no act", x.count(15), 0);
        x.hold(3);
        x.image();
        Checks.due("an image is no act", x.count(15), 1);
        Checks.due("what is ahead of it can be undone", x.undo(), 0);
        Checks.due("the clock", x.count(7), 0);
        x.back();
        Checks.due("the clock", x.count(7), 3);
    }

    private static void noActBehindBack() {
        Edges.terms(4, "BACK: they are so again (no ACT can be UNDONE then)");
        NamedCallers x = Checks.house("l;v");
        x.hold(1);
        x.hold(2);
        x.image();
        x.hold(3);
        Checks.due("acts", x.count(15), 3);
        Checks.due("back()", x.back(), 0);
        Checks.due("acts", x.count(15), 0);
        Checks.due("undo()", x.undo(), NONE);
        Checks.due("the clock", x.count(7), 3);
        x.hold(4);
        Checks.due("what is behind it can", x.undo(), 0);
        Checks.due("the clock", x.count(7), 3);
        Checks.due("and no more", x.undo(), NONE);
    }

    private static void imageOfThisHouse() {
        Edges.promise(42, "NONE: no IMAGE of this HOUSE.");
        NamedCallers x = Checks.house("l;v");
        x.hold(3);
        Checks.due("none", x.back(), NONE);
        Checks.due("the clock", x.count(7), 3);
        Checks.due("acts", x.count(15), 1);
        x.image();
        Checks.due("a house with a fault", Checks.tell(x, 0, "l;v;"), NONE);
        Checks.due("this house still has it", x.back(), 0);
        Checks.due("the clock", x.count(7), 3);
        Checks.due("another house", Checks.tell(x, 0, "l;v"), 1);
        x.hold(5);
        Checks.due("none of this one", x.back(), NONE);
        Checks.due("the clock", x.count(7), 5);
    }
}
