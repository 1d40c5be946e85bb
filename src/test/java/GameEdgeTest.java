/** Edges of games and rests: Terms 3, promises 32 and 33. Each sentence has a test of its own. */
public final class GameEdgeTest {
    private static final int NONE = NamedCallers.NONE;
    private static final int HIDDEN = NamedCallers.HIDDEN;

    public static void main(String[] args) {
        titlesOfEach();
        nothingElseMatters();
        oneMoreTired();
        worthIfDone();
        twoLess();
        noSuchGame();
        oneRest();
        fiveRests();
        rising();
        byAnotherOfHisOwn();
        noSuchRest();
        Checks.finish();
    }

    private static void titlesOfEach() {
        Edges.terms(3, "GAME of two CALLERS: x, y TITLES (0 .. 3) that each has");
        NamedCallers x = Checks.house("l;vt3w9;vt3w9");
        int[] wrong = {Integer.MIN_VALUE, -1, 4, Integer.MAX_VALUE};
        for (int w : wrong) {
            Checks.due("game(0, 1, " + w + ", 0, 0)", x.game(0, 1, w, 0, 0), HIDDEN);
            Checks.due("game(0, 1, 0, " + w + ", 1)", x.game(0, 1, 0, w, 1), HIDDEN);
        }
        for (int a = 0; a <= 3; a++) {
            for (int b = 0; b <= 3; b++) {
                int first = 9 - a - (b > a ? 2 : 0);
                int second = 9 - b - (a > b ? 2 : 0);
                Checks.due("the first of " + a + " and " + b, x.game(0, 1, a, b, 0), first);
                Checks.due("the second of " + a + " and " + b, x.game(0, 1, a, b, 1), second);
            }
        }
        Checks.due("he still has his own", x.caller(0, 2), 3);
    }

    private static void nothingElseMatters() {
        Edges.terms(3, "now (BEATS and PATIENCE do not matter");
        NamedCallers x = Checks.house("st1;lp0;vw9;vw8");
        Checks.due("the first", x.game(0, 1, 0, 0, 0), 9);
        Checks.due("the second", x.game(0, 1, 0, 0, 1), 8);
        NamedCallers y = Checks.house("st10;lp2;vw9;vw8");
        y.announce(0);
        y.announce(1);
        Checks.due("though he was announced", y.game(0, 1, 0, 0, 0), 9);
        Checks.due("though he was announced", y.game(0, 1, 0, 0, 1), 8);
        NamedCallers z = Checks.house("l;vw9;vw9");
        z.sing();
        Checks.due("sung: 5 by 2, cut", z.game(0, 1, 0, 0, 0), 0);
        Checks.due("sung: 9 by 2, cut", z.game(0, 1, 2, 2, 0), -2);
        Checks.due("sung: 11 by 2, cut", z.game(0, 1, 3, 3, 0), 6);
        z.sing();
        Checks.due("not sung", z.game(0, 1, 0, 0, 0), 9);
    }

    private static void oneMoreTired() {
        Edges.terms(3, "she is one more TIRED for the second)");
        NamedCallers x = Checks.house("lp9;vb6w5;vb6w5;v;v");
        Checks.due("tired 0, the first", x.game(0, 1, 0, 0, 0), 0);
        Checks.due("tired 1, the second", x.game(0, 1, 0, 0, 1), 0);
        x.announce(2);
        Checks.due("tired 1, the first", x.game(0, 1, 0, 0, 0), 0);
        Checks.due("tired 2, the second", x.game(0, 1, 0, 0, 1), 5);
        Checks.due("tired 1, the first", x.game(1, 0, 0, 0, 0), 0);
        Checks.due("tired 2, the second", x.game(1, 0, 0, 0, 1), 5);
        x.announce(3);
        Checks.due("tired 2, the first", x.game(0, 1, 0, 0, 0), 5);
    }

    private static void worthIfDone() {
        Edges.terms(3, "what one has: WORTH of his BUSINESS, if it would be DONE, less x (y)");
        // takes 5 7 9 11: done from one title on
        NamedCallers x = Checks.house("lw9;vb7w9;vb12w9;vb1w0");
        Checks.due("one beat too short", x.game(0, 2, 0, 0, 0), 0);
        Checks.due("as long", x.game(0, 2, 1, 0, 0), 8);
        Checks.due("longer", x.game(0, 2, 3, 0, 0), 6);
        Checks.due("never done", x.game(1, 2, 3, 0, 0), -3);
        Checks.due("worth nothing", x.game(2, 0, 0, 0, 0), 0);
        Checks.due("the lodger's wants do not count", x.game(0, 2, 1, 1, 0), 8);
        Checks.due("the second, done", x.game(2, 0, 0, 1, 1), 8);
        Checks.due("the second, never done", x.game(2, 1, 0, 3, 1), -3);
    }

    private static void twoLess() {
        Edges.terms(3, "2 less, if the other one has more TITLES");
        NamedCallers x = Checks.house("l;vb30;vb30");
        Checks.due("as many", x.game(0, 1, 2, 2, 0), -2);
        Checks.due("one more", x.game(0, 1, 2, 3, 0), -4);
        Checks.due("one fewer", x.game(0, 1, 2, 1, 0), -2);
        Checks.due("many more", x.game(0, 1, 0, 3, 0), -2);
        Checks.due("the second, as many", x.game(0, 1, 2, 2, 1), -2);
        Checks.due("the second, one more", x.game(0, 1, 3, 2, 1), -4);
    }

    private static void noSuchGame() {
        Edges.promise(32, "what the first has (0), the second (1). HIDDEN: no such ones, alike, out of bounds.");
        NamedCallers x = Checks.house("l;v;v;v");
        int[] nobody = {Integer.MIN_VALUE, -1, 3, Integer.MAX_VALUE};
        for (int w : nobody) {
            Checks.due("game(" + w + ", 0, ..)", x.game(w, 0, 0, 0, 0), HIDDEN);
            Checks.due("game(0, " + w + ", ..)", x.game(0, w, 0, 0, 0), HIDDEN);
            Checks.due("game of two alike who are not there", x.game(w, w, 0, 0, 0), HIDDEN);
        }
        int[] whats = {Integer.MIN_VALUE, -1, 2, Integer.MAX_VALUE};
        for (int what : whats) {
            Checks.due("game(.., " + what + ")", x.game(0, 1, 0, 0, what), HIDDEN);
        }
        for (int i = 0; i < 3; i++) {
            Checks.due("alike", x.game(i, i, 0, 0, 0), HIDDEN);
        }
        Checks.due("the last two", x.game(2, 1, 0, 0, 0), 3);
        Checks.due("one caller alone", Checks.house("l;v").game(0, 0, 0, 0, 0), HIDDEN);
        Checks.due("one caller alone", Checks.house("l;v").game(0, 1, 0, 0, 0), HIDDEN);
        Checks.due("no house", new NamedCallers().game(0, 1, 0, 0, 0), HIDDEN);
    }

    private static void restsAre(NamedCallers x, int... want) {
        Checks.due("how many", x.rests(0, 1, NONE), want.length);
        for (int i = 0; i < want.length; i++) {
            Checks.due("rests(0, 1, " + i + ")", x.rests(0, 1, i), want[i]);
        }
        Checks.due("behind the last", x.rests(0, 1, want.length), NONE);
    }

    private static void oneRest() {
        Edges.promise(33, "how many (i NONE), the i-th");
        // the first is never done; the second by three titles alone
        restsAre(Checks.house("l;vb30;vb11w4"), 3);
        restsAre(Checks.house("l;vb11w4;vb30"), 30);
    }

    private static void fiveRests() {
        Edges.terms(3, "RESTS: 10 times x and y by which neither has more by another of his own");
        // the first is done by one title alone, the second by none and by two
        NamedCallers x = Checks.house("l;vb30w1;vb30w1");
        Checks.tell(x, 1, "y:g=0&t=1|g=1&(t=0|t=2)?30;y:1");
        x.law(0);
        restsAre(x, 0, 10, 11, 12, 22);
    }

    private static void rising() {
        Edges.terms(3, "how many, the i-th (rising)");
        restsAre(Checks.house("l;vb30;vb30"), 0, 11, 22);
        restsAre(Checks.house("l;vb11w1;vb9w2"), 0, 2, 22, 33);
    }

    private static void byAnotherOfHisOwn() {
        Edges.terms(3, "by which neither has more by another of his own");
        // as much by another is no more: 3 and 3 are a rest, for by none he has as much
        NamedCallers x = Checks.house("l;vb11w1;vb11w1");
        Checks.due("by three", x.game(0, 1, 3, 3, 0), -2);
        Checks.due("by none", x.game(0, 1, 0, 3, 0), -2);
        restsAre(x, 0, 11, 22, 33);
        // one less worth, and they are none
        restsAre(Checks.house("l;vb11w0;vb11w0"), 0, 11, 22);
    }

    private static void noSuchRest() {
        Edges.promise(33, "NONE: no such one, no such CALLERS, alike.");
        NamedCallers x = Checks.house("l;vb30;vb30");
        int[] wrong = {Integer.MIN_VALUE, -3, -2, 3, 16, Integer.MAX_VALUE};
        for (int i : wrong) {
            Checks.due("rests(0, 1, " + i + ")", x.rests(0, 1, i), NONE);
        }
        int[] nobody = {Integer.MIN_VALUE, -1, 2, Integer.MAX_VALUE};
        for (int w : nobody) {
            Checks.due("rests(" + w + ", 0, 0)", x.rests(w, 0, 0), NONE);
            Checks.due("rests(0, " + w + ", 0)", x.rests(0, w, 0), NONE);
            Checks.due("rests(0, " + w + ", NONE)", x.rests(0, w, NONE), NONE);
        }
        Checks.due("alike", x.rests(0, 0, NONE), NONE);
        Checks.due("alike", x.rests(1, 1, 0), NONE);
        Checks.due("no house", new NamedCallers().rests(0, 1, NONE), NONE);
    }
}
