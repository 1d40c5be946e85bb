/** Promises 32 to 40: games, rests, odds, means, all of them, queues, songs, spans. */
public final class GameTest {
    private static final int HIDDEN = NamedCallers.HIDDEN;

    public static void main(String[] args) {
        games();
        rests();
        odds();
        means();
        all();
        whose();
        queues();
        sung();
        spans();
        noHouse();
        Checks.finish();
    }

    private static void games() {
        NamedCallers x = Checks.house("st1;lp0;vb7w8;vb6w5");
        Checks.due("not done", x.game(0, 1, 0, 0, 0), 0);
        Checks.due("done by a title", x.game(0, 1, 1, 0, 0), 7);
        Checks.due("the other has more", x.game(0, 1, 1, 2, 0), 5);
        Checks.due("the other has as many", x.game(0, 1, 2, 2, 0), 6);
        Checks.due("not done, the other has more", x.game(0, 1, 0, 3, 0), -2);
        Checks.due("the second, not done", x.game(0, 1, 0, 0, 1), 0);
        Checks.due("the second, done", x.game(0, 1, 0, 1, 1), 4);
        Checks.due("the second, envious", x.game(0, 1, 2, 1, 1), 2);
        NamedCallers y = Checks.house("l;vb5;vb6;vb5");
        y.announce(2);
        Checks.due("she is one more tired for the second", y.game(0, 1, 0, 0, 1), 3);
        Checks.due("not for the first", y.game(1, 0, 0, 0, 0), 0);
        int[][] wrong = {{0, 3, 0, 0, 0}, {3, 0, 0, 0, 0}, {-1, 0, 0, 0, 0}, {0, -1, 0, 0, 0}, {0, 0, 0, 0, 0}, {0, 1, 4, 0, 0},
            {0, 1, -1, 0, 0}, {0, 1, 0, 4, 0}, {0, 1, 0, -1, 0}, {0, 1, 0, 0, 2}, {0, 1, 0, 0, -1}};
        for (int[] w : wrong) {
            Checks.due("game " + java.util.Arrays.toString(w), y.game(w[0], w[1], w[2], w[3], w[4]), HIDDEN);
        }
    }

    private static void rests() {
        NamedCallers x = Checks.house("l;vb5w3;vn2p0t1b3w4");
        Checks.due("how many", x.rests(0, 1, -1), 2);
        Checks.due("the first", x.rests(0, 1, 0), 11);
        Checks.due("the second", x.rests(0, 1, 1), 22);
        Checks.due("no such", x.rests(0, 1, 2), -1);
        Checks.due("no such", x.rests(0, 1, -2), -1);
        Checks.due("alike", x.rests(0, 0, -1), -1);
        Checks.due("no such", x.rests(0, 2, -1), -1);
        Checks.due("no such", x.rests(-1, 1, -1), -1);
        NamedCallers y = Checks.house("l;vb9w9;vb30w9;vb11w5;vn1p0b1");
        for (int one = 0; one < 4; one++) {
            for (int other = 0; other < 4; other++) {
                if (one != other) {
                    restsByGames(y, one, other);
                }
            }
        }
        y.announce(3);
        restsByGames(y, 0, 1);
    }

    private static void restsByGames(NamedCallers x, int one, int other) {
        int found = 0;
        for (int a = 0; a < 4; a++) {
            for (int b = 0; b < 4; b++) {
                boolean rest = true;
                for (int c = 0; c < 4; c++) {
                    rest &= x.game(one, other, c, b, 0) <= x.game(one, other, a, b, 0);
                    rest &= x.game(one, other, a, c, 1) <= x.game(one, other, a, b, 1);
                }
                if (rest) {
                    Checks.due("rest " + found + " of " + one + " and " + other, x.rests(one, other, found), 10 * a + b);
                    found++;
                }
            }
        }
        Checks.due("rests of " + one + " and " + other, x.rests(one, other, -1), found);
        Checks.due("no more rests", x.rests(one, other, found), -1);
    }

    private static void odds() {
        NamedCallers x = Checks.house("sh2;l;vn3p1b5;vn3p3b7;vn3p5b30;vn3p0b3;vn9p5b1");
        Checks.due("odds(0, 0)", x.odds(0, 0), 1000000000);
        Checks.due("odds(0, 100)", x.odds(0, 100), 0);
        Checks.due("odds(0, 33)", x.odds(0, 33), 670000000);
        // done with two hard sounds at least of three
        Checks.due("odds(1, 50)", x.odds(1, 50), 500000000);
        Checks.due("odds(1, 10)", x.odds(1, 10), 972000000);
        Checks.due("never", x.odds(2, 10), 0);
        Checks.due("always", x.odds(3, 100), 1000000000);
        Checks.due("always", x.odds(4, 37), 1000000000);
        Checks.due("no such", x.odds(5, 0), -1);
        Checks.due("no such", x.odds(-1, 0), -1);
        Checks.due("out of bounds", x.odds(0, -1), -1);
        Checks.due("out of bounds", x.odds(0, 101), -1);
        // of five: all but the part in which all slip; 25 of 100 to the fifth is 976562.5 of 10 to the 9, cut
        NamedCallers y = Checks.house("sh2;l;vn1p5b3;vn1p5b11");
        Checks.due("odds(0, 25)", y.odds(0, 25), 1000000000 - 976562);
        // none slips: a quarter of each part goes, cut, so what is left is rounded up
        Checks.due("odds(1, 25)", y.odds(1, 25), 237304688);
        Checks.due("odds(1, 1)", y.odds(1, 1), 950990050);
        oddsOfEachPart();
    }

    private static void oddsOfEachPart() {
        // By 33 of 100 up to two of five slip: of each way in which those ahead slipped or not, the cut is its own.
        NamedCallers x = Checks.house("l;vp5b9;vp5b5;vp4b7");
        for (int caller = 0; caller < 3; caller++) {
            for (int chance = 0; chance <= 100; chance++) {
                int hards = x.caller(caller, 1);
                int needed = (x.caller(caller, 3) - 3 + 1) / 2;
                Checks.due("odds(" + caller + ", " + chance + ")", x.odds(caller, chance), oddsByWays(hards, needed, chance));
            }
        }
        Checks.due("two of five at most", x.odds(0, 33), 795036916);
        // the ways of a caller with five are gone when one with fewer is asked for
        NamedCallers y = Checks.house("l;vp5b3;vp0b3;vp1b3");
        for (int caller = 0; caller < 3; caller++) {
            Checks.due("in all", y.odds(caller, 33), 1000000000);
        }
    }

    private static int oddsByWays(int hards, int needed, int chance) {
        long done = 0;
        for (int way = 0; way < 1 << hards; way++) {
            long part = 1000000000;
            for (int sound = 0; sound < hards; sound++) {
                long slip = part * chance / 100;
                part = (way >> sound & 1) == 1 ? slip : part - slip;
            }
            done += hards - Integer.bitCount(way) >= needed ? part : 0;
        }
        return (int) done;
    }

    private static void means() {
        NamedCallers x = Checks.house("sh1;l;vn1p5;vn2t1");
        Checks.due("1 to 6", x.mean(0), 350);
        Checks.due("4 to 9", x.mean(1), 650);
        x.sing();
        // 0 (held: 1) 1 1 2 2 3
        Checks.due("sung", x.mean(0), 1000 / 6);
        Checks.due("no such", x.mean(2), -1);
        Checks.due("no such", x.mean(-1), -1);
    }

    private static void all() {
        NamedCallers x = Checks.house("st40;lw1;lw5;lw5p0;vn2b4w4t1;vn9b4w4t1;vn1p0t3b9w9;vn9b9w9t3l2;vn1p0b1w0l1");
        // takes 6 13 7 17 1
        int[] want = {40, 3, 4, 2, 2, 2, 1, 1 + 2 + 4 + 16, 1 + 2 + 8 + 16, 6 + 13 + 8 + 18 + 3};
        for (int i = 0; i < want.length; i++) {
            Checks.due("all(" + i + ")", x.all(i), want[i]);
        }
        Checks.due("all(10)", x.all(10), -1);
        Checks.due("all(-1)", x.all(-1), -1);
        x.announce(1);
        x.hold(20);
        Checks.due("left", x.all(0), 7);
        Checks.due("due", x.all(7), 1 + 4 + 16);
        x.title(0);
        Checks.due("due", x.all(7), 4 + 16);
        Checks.due("ready, announced or not", x.all(8), 1 + 2 + 8 + 16);
        Checks.due("all, announced or not", x.all(9), 8 + 13 + 1 + 7 + 1 + 17 + 2 + 1 + 2);
        NamedCallers y = Checks.house("l;l;v;v");
        for (int i = 1; i <= 6; i++) {
            Checks.due("of several the lowest: all(" + i + ")", y.all(i), 0);
        }
        y.title(1);
        Checks.due("longest", y.all(1), 1);
        Checks.due("grandest", y.all(5), 1);
        Checks.due("shortest", y.all(2), 0);
        y.title(0);
        y.title(0);
        Checks.due("shortest", y.all(2), 1);
    }

    private static void whose() {
        NamedCallers x = Checks.house("l;l;l;vl1;v;vl1;v");
        Checks.due("whose(0)", x.whose(0), 2 + 8);
        Checks.due("whose(1)", x.whose(1), 1 + 4);
        Checks.due("whose(2)", x.whose(2), 0);
        Checks.due("whose(3)", x.whose(3), -1);
        Checks.due("whose(-1)", x.whose(-1), -1);
    }

    private static void queues() {
        NamedCallers x = Checks.house("st20;lp9;vn4;vn3;vn4;vn1p0");
        Checks.due("row", x.queue(0), 3102);
        // 1, 5, 6 + 1, 6 + 1
        Checks.due("how many", x.queue(1), 4);
        x.hold(1);
        Checks.due("how many", x.queue(1), 3);
        x.announce(3);
        Checks.due("row", x.queue(0), 102);
        x.announce(1);
        Checks.due("row", x.queue(0), 2);
        Checks.due("how many", x.queue(1), 1);
        Checks.due("changes nothing", x.count(7), 7);
        Checks.due("no such", x.queue(2), -1);
        Checks.due("no such", x.queue(-1), -1);
        // behind the first who can't be nobody counts
        NamedCallers y = Checks.house("lp0;l;v;vn4l1");
        Checks.due("row", y.queue(0), 1);
        Checks.due("how many", y.queue(1), 0);
        y.announce(1);
        Checks.due("row of the one left", y.queue(0), 0);
        Checks.due("how many", y.queue(1), 0);
        NamedCallers z = Checks.house("l;v");
        z.announce(0);
        Checks.due("nobody", z.queue(0), -1);
        Checks.due("none", z.queue(1), 0);
    }

    private static void sung() {
        NamedCallers x = Checks.house("l;vn7p1;v");
        Checks.due("if she sings", x.sung(0, 0), 4);
        Checks.due("if not", x.sung(0, 1), 9);
        x.sing();
        x.announce(1);
        x.announce(0);
        Checks.due("if she sings", x.sung(0, 0), 5);
        Checks.due("if not", x.sung(0, 1), 10);
        Checks.due("no such", x.sung(2, 0), -1);
        Checks.due("no such", x.sung(-1, 0), -1);
        Checks.due("no such", x.sung(0, 2), -1);
        Checks.due("no such", x.sung(0, -1), -1);
    }

    private static void spans() {
        NamedCallers x = Checks.house("st12;l;v;vt1;vt3");
        Checks.due("three", x.span(0), 3);
        Checks.due("two more", x.span(1), 2);
        Checks.due("none more", x.span(2), 0);
        x.hold(3);
        Checks.due("nine left", x.span(0), 2);
        Checks.due("nine left", x.span(1), 1);
        Checks.due("too long", x.span(2), -1);
        x.hold(3);
        Checks.due("six left", x.span(0), 0);
        x.hold(2);
        Checks.due("too long", x.span(0), -1);
        Checks.due("no such", x.span(3), -1);
        Checks.due("no such", x.span(-1), -1);
        NamedCallers y = Checks.house("st9;l;v");
        Checks.tell(y, 1, "y:t=1?60;y:t=3?60;y:5");
        y.law(0);
        Checks.due("at most, though one would be too long", y.span(0), 2);
        y.title(0);
        Checks.due("too long as he is", y.span(0), -1);
    }

    private static void noHouse() {
        NamedCallers x = new NamedCallers();
        Checks.due("game", x.game(0, 1, 0, 0, 0), HIDDEN);
        int[] answers = {x.rests(0, 1, -1), x.odds(0, 1), x.mean(0), x.all(0), x.all(9), x.whose(0), x.queue(0), x.queue(1),
            x.sung(0, 0), x.span(0), x.name(0, 0), x.order(0), x.order(1), x.needs(0), x.timed(5), x.heard(0, 5, true), x.hards(0),
            x.ask(5)};
        for (int answer : answers) {
            Checks.due("without a house", answer, -1);
        }
    }
}
