/** Promises 11 to 20: acts, years, undone acts, the log. */
public final class ActTest {
    private static final long FACTOR = 6364136223846793005L;
    private static final long SUMMAND = 1442695040888963407L;

    public static void main(String[] args) {
        announcing();
        patience();
        nameHeld();
        titles();
        singing();
        breath();
        holding();
        days();
        years();
        undone();
        logs();
        noHouse();
        Checks.finish();
    }

    private static void announcing() {
        NamedCallers x = Checks.house("st20;lw4;vb5w3;vb6w3;vb5w0;vn9p5");
        Checks.due("just as long: done", x.announce(0), 1);
        Checks.due("gain", x.count(10), 7);
        Checks.due("done", x.count(11), 1);
        Checks.due("tired", x.count(8), 1);
        Checks.due("clock", x.count(7), 5);
        String before = Checks.portrait(x);
        Checks.due("he was", x.announce(0), -1);
        Checks.due("no such", x.announce(4), -1);
        Checks.due("no such", x.announce(-1), -1);
        Checks.due("beyond", x.announce(3), -1);
        Checks.due("refused changes nothing", Checks.portrait(x).equals(before), true);
        Checks.due("one beat short: cut off", x.announce(1), 0);
        Checks.due("gain", x.count(10), 7);
        Checks.due("done", x.count(11), 1);
        Checks.due("clock", x.count(7), 10);
        Checks.due("longer, for she is tired: done", x.announce(2), 1);
        Checks.due("clock", x.count(7), 16);
        Checks.due("gain", x.count(10), 11);
        NamedCallers y = Checks.house("st10;l;v;v;v");
        y.announce(0);
        Checks.due("up to the last beat", y.announce(1), 1);
        Checks.due("clock", y.count(7), 10);
        Checks.due("nothing left", y.announce(2), -1);
    }

    private static void patience() {
        NamedCallers x = Checks.house("lp1;lp0;v;v;vl1");
        Checks.due("first", x.announce(0), 1);
        Checks.due("room", x.lodger(0, 2), 0);
        Checks.due("no patience left", x.announce(1), -1);
        Checks.due("no patience ever", x.announce(2), -1);
        x.day();
        Checks.due("a new day", x.announce(1), 1);
    }

    private static void nameHeld() {
        NamedCallers x = Checks.house("sh9t99;lp9;vn9p5t3;vn1p0b1;vn1p0b1;vn1p0b1");
        Checks.due("longest", x.name(0, 0), 60);
        x.sing();
        Checks.due("shortest is 1, sung", x.name(1, 0), 1);
        x.announce(1);
        x.announce(2);
        x.sing();
        Checks.due("held within 60 when she is tired", x.name(0, 0), 60);
        Checks.due("one more when she is tired", x.name(3, 0), 2);
        x.sing();
        Checks.due("tired is not halved by song", x.name(3, 0), 1);
        Checks.due("sung and tired", x.name(0, 0), 31);
    }

    private static void titles() {
        NamedCallers x = Checks.house("sc7;l;v;vt3");
        Checks.due("title(0)", x.title(0), 1);
        Checks.due("coins", x.rule(2), 5);
        Checks.due("name", x.name(0, 0), 7);
        Checks.due("title(1)", x.title(1), -1);
        Checks.due("title(2)", x.title(2), -1);
        Checks.due("title(-1)", x.title(-1), -1);
        Checks.due("title(0)", x.title(0), 2);
        Checks.due("title(0)", x.title(0), 3);
        Checks.due("coins", x.rule(2), 1);
        Checks.due("drop(1)", x.drop(1), 2);
        Checks.due("too few coins", x.title(1), -1);
        Checks.due("coins", x.rule(2), 1);
        Checks.due("drop(1)", x.drop(1), 1);
        Checks.due("drop(1)", x.drop(1), 0);
        Checks.due("drop(1) of none", x.drop(1), -1);
        Checks.due("drop(2)", x.drop(2), -1);
        Checks.due("drop(-1)", x.drop(-1), -1);
        Checks.due("nothing back for a title", x.rule(2), 1);
        Checks.due("acts", x.count(15), 6);
        NamedCallers y = Checks.house("sc2;l;v");
        Checks.due("just enough coins", y.title(0), 1);
        Checks.due("coins", y.rule(2), 0);
    }

    private static void singing() {
        NamedCallers x = Checks.house("l;vn8p1");
        Checks.due("sing", x.sing(), 1);
        Checks.due("half, cut", x.name(0, 0), 5);
        Checks.due("not any more", x.sing(), 0);
        Checks.due("whole", x.name(0, 0), 10);
        x.sing();
        x.day();
        Checks.due("song stays", x.count(9), 1);
    }

    private static void breath() {
        NamedCallers x = Checks.house("st18;l;v;v;vb9");
        Checks.due("not tired", x.breath(), -1);
        x.announce(0);
        Checks.due("one less at least 0", x.breath(), 0);
        Checks.due("clock", x.count(7), 8);
        Checks.due("not tired", x.breath(), -1);
        x.announce(1);
        x.announce(2);
        Checks.due("clock", x.count(7), 18);
        Checks.due("beyond", x.breath(), -1);
        Checks.due("tired still", x.count(8), 2);
        NamedCallers y = Checks.house("st18;lp9;v;v;v");
        y.announce(0);
        y.announce(1);
        y.hold(5);
        Checks.due("to the last beat", y.breath(), 0);
        NamedCallers z = Checks.house("st60;lp9;v;v;v");
        z.announce(0);
        z.announce(1);
        z.announce(2);
        Checks.due("two less", z.breath(), 1);
    }

    private static void holding() {
        NamedCallers x = Checks.house("st45;l;v");
        Checks.due("hold(0)", x.hold(0), -1);
        Checks.due("hold(21)", x.hold(21), -1);
        Checks.due("hold(-1)", x.hold(-1), -1);
        Checks.due("hold(MAX)", x.hold(Integer.MAX_VALUE), -1);
        Checks.due("hold(20)", x.hold(20), 20);
        Checks.due("hold(20)", x.hold(20), 40);
        Checks.due("hold(6)", x.hold(6), -1);
        Checks.due("hold(5)", x.hold(5), 45);
        Checks.due("hold(1)", x.hold(1), -1);
        Checks.due("not tired by it", x.count(8), 0);
    }

    private static void days() {
        NamedCallers x = Checks.house("sc99;lp9;v;v;vb9");
        x.announce(0);
        x.announce(1);
        x.announce(2);
        x.hold(3);
        Checks.due("day", x.day(), 1);
        Checks.due("coins more by those done", x.rule(2), 101);
        Checks.due("clock", x.count(7), 0);
        Checks.due("tired", x.count(8), 0);
        Checks.due("done", x.count(11), 0);
        Checks.due("gain stays", x.count(10), 10);
        Checks.due("announced", x.caller(0, 7), 0);
        Checks.due("room", x.lodger(0, 2), 9);
        for (int i = 0; i < 33; i++) {
            x.years(30, i);
        }
        for (int i = 992; i <= 999; i++) {
            Checks.due("day " + i, x.day(), i);
        }
        Checks.due("beyond 999", x.day(), -1);
        Checks.due("beyond 999", x.years(1, 5), -1);
        Checks.due("the day", x.count(6), 999);
        Checks.due("coins at most", x.rule(2), 999);
        NamedCallers y = Checks.house("lw9;lw9;vb1w9;vb1w9l1;vb1w9");
        for (int i = 0; i < 30; i++) {
            y.years(30, 7 * i);
        }
        Checks.due("gain at most", y.count(10), 9999);
    }

    /** The same years by hand: draws told as the document tells them, acts by the face. */
    private static void yearsByHand(NamedCallers y, int n, long seed, int whim) {
        long x = seed;
        int callers = y.count(0);
        for (int i = 0; i < n; i++) {
            for (int call = 0; call < 3; call++) {
                x = x * FACTOR + SUMMAND;
                y.announce((int) ((x >>> 33) % callers));
            }
            x = x * FACTOR + SUMMAND;
            if ((x >>> 33) % 10 < whim) {
                x = x * FACTOR + SUMMAND;
                int who = (int) ((x >>> 33) % callers);
                x = x * FACTOR + SUMMAND;
                int titles = (int) ((x >>> 33) % 4);
                while (y.caller(who, 2) > titles) {
                    y.drop(who);
                }
                while (y.caller(who, 2) < titles) {
                    y.title(who);
                }
            }
            y.day();
        }
    }

    private static void years() {
        long[] seeds = {0, 1, -1, 42, Long.MAX_VALUE, Long.MIN_VALUE, 123456789123456789L};
        for (long seed : seeds) {
            for (int whim = 0; whim <= 9; whim += 3) {
                String house = "st30c99;lp2;lp1w5;v;vn5b9l1;vp0b2;vn2p4b11w7";
                NamedCallers x = Checks.house(house);
                NamedCallers y = Checks.house(house);
                x.whim(whim);
                Checks.due("years", x.years(6, seed), 6);
                yearsByHand(y, 6, seed, whim);
                Checks.due("acts of years", x.count(15), 6);
                Checks.due("gain of years", x.count(10), y.count(10));
                for (int i = 0; i < 4; i++) {
                    Checks.due("titles of years", x.caller(i, 2), y.caller(i, 2));
                }
                for (int i = 0; i < 6; i++) {
                    for (int what = 0; what < 3; what++) {
                        Checks.due("log of years", x.log(i, what), y.log(i, what));
                    }
                }
            }
        }
        NamedCallers x = Checks.house("l;v");
        Checks.due("years(0)", x.years(0, 1), -1);
        Checks.due("years(31)", x.years(31, 1), -1);
        Checks.due("years(-1)", x.years(-1, 1), -1);
        Checks.due("years(MAX)", x.years(Integer.MAX_VALUE, 1), -1);
        Checks.due("years(30)", x.years(30, 1), 30);
        Checks.due("acts", x.count(15), 30);
        Checks.due("years(30)", x.years(30, 1), 60);
        Checks.due("acts", x.count(15), 40);
        Checks.due("undo", x.undo(), 39);
        Checks.due("one day back", x.count(6), 59);
        x.whim(9);
        x.years(30, 3);
        Checks.due("titles for nothing", x.rule(2) >= 20, true);
        for (int i = 0; i < 30; i++) {
            x.years(30, i);
        }
        Checks.due("989", x.count(6), 989);
        Checks.due("years(11)", x.years(11, 1), -1);
        Checks.due("years(10)", x.years(10, 1), 999);
    }

    private static void undone() {
        NamedCallers x = Checks.house("lp9;lp9;v;vt1;vl1");
        String[] portraits = new String[10];
        int acts = 0;
        portraits[acts++] = Checks.portrait(x);
        x.announce(0);
        portraits[acts++] = Checks.portrait(x);
        x.title(0);
        portraits[acts++] = Checks.portrait(x);
        x.drop(1);
        portraits[acts++] = Checks.portrait(x);
        x.sing();
        portraits[acts++] = Checks.portrait(x);
        x.announce(2);
        portraits[acts++] = Checks.portrait(x);
        x.breath();
        portraits[acts++] = Checks.portrait(x);
        x.hold(2);
        portraits[acts++] = Checks.portrait(x);
        x.day();
        portraits[acts++] = Checks.portrait(x);
        x.years(1, 77);
        for (int i = acts - 1; i >= 0; i--) {
            Checks.due("undo", x.undo(), i);
            Checks.due("all as it was", Checks.portrait(x).equals(portraits[i]), true);
        }
        Checks.due("no more", x.undo(), -1);
        for (int i = 0; i < 45; i++) {
            x.sing();
        }
        Checks.due("the latest 40", x.count(15), 40);
        for (int i = 39; i >= 0; i--) {
            Checks.due("undo", x.undo(), i);
        }
        Checks.due("no more", x.undo(), -1);
        Checks.due("the earliest five stay", x.count(9), 1);
    }

    private static void logs() {
        NamedCallers x = Checks.house("st99;lp9;v;vb9;v");
        Checks.due("no log", x.log(0, 0), -1);
        x.announce(1);
        x.announce(2);
        x.day();
        x.hold(7);
        x.day();
        Checks.due("done, the latest", x.log(0, 0), 0);
        Checks.due("announced, the latest", x.log(0, 1), 0);
        Checks.due("clock, the latest", x.log(0, 2), 7);
        Checks.due("done", x.log(1, 0), 1);
        Checks.due("announced", x.log(1, 1), 6);
        Checks.due("clock", x.log(1, 2), 10);
        Checks.due("no such", x.log(2, 0), -1);
        Checks.due("no such", x.log(-1, 0), -1);
        Checks.due("no such", x.log(0, 3), -1);
        Checks.due("no such", x.log(0, -1), -1);
        for (int i = 0; i < 100; i++) {
            x.hold(i % 20 + 1);
            if (i % 3 == 0) {
                x.hold(20);
            }
            x.undo();
            x.hold(i % 7 + 1);
            x.day();
        }
        Checks.due("the latest 60", x.count(14), 60);
        Checks.due("no such", x.log(60, 2), -1);
        // 40 acts are 20 days of hold and day: behind them the log is as long as it was
        int[] clocks = new int[60];
        for (int i = 0; i < 60; i++) {
            clocks[i] = x.log(i, 2);
        }
        for (int i = 0; i < 40; i++) {
            x.day();
        }
        Checks.due("forty days", x.log(40, 2), clocks[0]);
        Checks.due("forty days", x.log(59, 2), clocks[19]);
        for (int i = 0; i < 40; i++) {
            x.undo();
        }
        Checks.due("the log is as long", x.count(14), 60);
        for (int i = 0; i < 60; i++) {
            Checks.due("log of undone days", x.log(i, 2), clocks[i]);
        }
    }

    private static void noHouse() {
        NamedCallers x = new NamedCallers();
        Checks.tell(x, 2, "g");
        Checks.due("perform", x.perform(0), -1);
        Checks.due("run", x.run(0, 0), NamedCallers.HIDDEN);
        Checks.due("step is told", x.step(0, 0, 0), 2);
        Checks.due("acts", x.count(15), 0);
        int[] answers = {x.announce(0), x.title(0), x.drop(0), x.sing(), x.breath(), x.hold(1), x.day(), x.years(1, 1), x.undo(),
            x.log(0, 0), x.image(), x.back()};
        for (int answer : answers) {
            Checks.due("without a house", answer, -1);
        }
        Checks.due("acts", x.count(15), 0);
    }
}
