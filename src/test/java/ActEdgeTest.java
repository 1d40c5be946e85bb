/** Edges of acts: Terms 2, promises 11 to 17, 19 and 20. Each sentence has a test of its own. */
public final class ActEdgeTest {
    private static final int NONE = NamedCallers.NONE;

    public static void main(String[] args) {
        nameWithoutLaw();
        byTwoCut();
        halfOfTiredCut();
        onceADay();
        clockAtFirst();
        notBeyondTheBeats();
        patience();
        asLongAsBusiness();
        gainAtFirst();
        gainAtMost();
        oneMoreTired();
        titlesAtMost();
        titlePrice();
        drops();
        sings();
        breathNotBeyond();
        breathRests();
        breathNotTired();
        heldUpBounds();
        heldUpNotBeyond();
        lastDay();
        coinsAtMost();
        logLatestSixty();
        logTold();
        newDay();
        latestForty();
        undoneLog();
        undoneEachAct();
        upToTheLastCall();
        Checks.finish();
    }

    private static void nameWithoutLaw() {
        Edges.terms(2, "none at first: SYLLABLES, HARD sounds each as many as told, 2 for each TITLE");
        NamedCallers least = Checks.house("sh0;l;vn1p0t0;vn1p5t0;vn1p0t1");
        Checks.due("1", least.name(0, 0), 1);
        Checks.due("hard sounds that take none", least.name(1, 0), 1);
        Checks.due("a title", least.name(2, 0), 3);
        NamedCallers most = Checks.house("sh9;l;vn9p5t3;vn9p0t0;vn1p1t0;vn1p5t0");
        Checks.due("9 and 5 times 9 and 3 times 2", most.name(0, 0), 60);
        Checks.due("9", most.name(1, 0), 9);
        Checks.due("1 and 9", most.name(2, 0), 10);
        Checks.due("1 and 5 times 9", most.name(3, 0), 46);
    }

    private static void byTwoCut() {
        Edges.terms(2, "all this by 2, cut, if she SINGS");
        NamedCallers x = Checks.house("l;vn2p0;vn3p0;vn3p0t1;vn2p1t3");
        x.sing();
        Checks.due("2 by 2", x.name(0, 0), 1);
        Checks.due("3 by 2, cut", x.name(1, 0), 1);
        Checks.due("5 by 2, cut", x.name(2, 0), 2);
        Checks.due("10 by 2", x.name(3, 0), 5);
        x.sing();
        Checks.due("not any more", x.name(3, 0), 10);
    }

    private static void halfOfTiredCut() {
        Edges.terms(2, "and half, cut, of how TIRED she is more");
        NamedCallers x = Checks.house("st99;lp9;v;v;v;v;v;v");
        int[] want = {5, 5, 6, 6, 7, 7, 8};
        for (int tired = 0; tired <= 6; tired++) {
            Checks.due("tired " + tired, x.name(0, 0), want[tired]);
            x.announce(tired);
        }
        x.sing();
        Checks.due("what she is tired is not sung: 5 by 2 and 3", x.name(0, 0), 5);
    }

    private static void onceADay() {
        Edges.terms(2, "A CALLER is ANNOUNCED (once a DAY)");
        NamedCallers x = Checks.house("lp9;v");
        Checks.due("announce", x.announce(0), 1);
        Checks.due("again", x.announce(0), NONE);
        Checks.due("the clock", x.count(7), 5);
        Checks.due("the room", x.lodger(0, 2), 8);
        x.day();
        Checks.due("on the next day", x.announce(0), 1);
        Checks.due("again", x.announce(0), NONE);
        x.undo();
        Checks.due("undone, he was not", x.announce(0), 1);
    }

    private static void clockAtFirst() {
        Edges.terms(2, "the CLOCK (0 at first) goes on by as much as his NAME takes");
        NamedCallers x = Checks.house("lp9;vn9p5t3;vn1p0");
        Checks.due("at first", x.count(7), 0);
        x.announce(0);
        Checks.due("25", x.count(7), 25);
        x.announce(1);
        Checks.due("1 more", x.count(7), 26);
    }

    private static void notBeyondTheBeats() {
        Edges.terms(2, "it can't be, if it would be beyond the BEATS of an afternoon");
        Checks.due("as many as there are", Checks.house("st5;l;v").announce(0), 1);
        Checks.due("one too few", Checks.house("st4;l;v").announce(0), NONE);
        Checks.due("the least afternoon", Checks.house("st1;l;vn1p0b1").announce(0), 1);
        Checks.due("the least afternoon", Checks.house("st1;l;vn2p0b1").announce(0), NONE);
        NamedCallers x = Checks.house("st99h9;l;vn9p5t3;vn9p3t1b1;vn1p0");
        Checks.due("60 of 99", x.announce(0), 1);
        Checks.due("38 of 39", x.announce(1), 1);
        Checks.due("2 of 1", x.announce(2), NONE);
        x.sing();
        Checks.due("1 of 1", x.announce(2), 0);
        Checks.due("the clock", x.count(7), 99);
    }

    private static void patience() {
        Edges.terms(2, "or his LODGER received as many as PATIENCE that DAY");
        Checks.due("none", Checks.house("lp0;v").announce(0), NONE);
        for (int patience = 1; patience <= 6; patience++) {
            NamedCallers x = Checks.house("st99;lp" + patience + ";v;v;v;v;v;v");
            for (int i = 0; i < 6; i++) {
                Checks.due("call " + i + " of " + patience, x.announce(i) == NONE, i >= patience);
                Checks.due("the room", x.lodger(0, 2), Math.max(0, patience - i - 1));
            }
        }
        // who is cut off was received, too; another lodger's calls do not count
        NamedCallers x = Checks.house("lp1;lp1;vb30;v;vl1");
        Checks.due("cut off", x.announce(0), 0);
        Checks.due("as many as patience", x.announce(1), NONE);
        Checks.due("another lodger", x.announce(2), 1);
        x.day();
        Checks.due("on the next day", x.announce(1), 1);
    }

    private static void asLongAsBusiness() {
        Edges.terms(2, "If his NAME takes as long as his BUSINESS or longer, it is DONE");
        NamedCallers x = Checks.house("lw1;vb4;vb5;vb6");
        Checks.due("longer", x.announce(0), 1);
        Checks.due("as long", x.announce(1), 1);
        x.day();
        Checks.due("one shorter: cut off", x.announce(2), 0);
        Checks.due("done", x.count(11), 0);
        Checks.due("gain of two", x.count(10), 8);
        NamedCallers y = Checks.house("l;vn9p5t2b30w9;vn9p5t3b30");
        Checks.due("30 takes 23", y.announce(0), 0);
        Checks.due("no gain", y.count(10), 0);
        NamedCallers z = Checks.house("sh9;l;vb1;vp3b30");
        Checks.due("the least business", z.announce(0), 1);
        Checks.due("the longest business", z.announce(1), 1);
    }

    private static void gainAtFirst() {
        Edges.terms(2, "GAIN (0 at first; 9,999 at most) is more by its WORTH and what the LODGER WANTS");
        NamedCallers x = Checks.house("lw9;lw0;vw9;vw0l1;vw0;vw9l1");
        Checks.due("at first", x.count(10), 0);
        int[] want = {18, 18, 27, 36};
        for (int i = 0; i < 4; i++) {
            Checks.due("done", x.announce(i), 1);
            Checks.due("gain", x.count(10), want[i]);
        }
        x.day();
        Checks.due("gain stays", x.count(10), 36);
    }

    private static void gainAtMost() {
        Edges.terms(2, "9,999 at most");
        NamedCallers x = Edges.gained(50);
        Checks.due("gain", x.count(10), 9900);
        for (int i = 0; i < 5; i++) {
            x.announce(i);
        }
        Checks.due("gain", x.count(10), 9990);
        Checks.due("9 more", x.announce(5), 1);
        Checks.due("just 9,999", x.count(10), 9999);
        x.day();
        Checks.due("still done", x.announce(5), 1);
        Checks.due("no more", x.count(10), 9999);
        Checks.due("done that day", x.count(11), 1);
        x.undo();
        x.undo();
        x.undo();
        Checks.due("undone", x.count(10), 9990);
        x.day();
        Checks.due("18 more would be 10,008", x.announce(0), 1);
        Checks.due("9,999", x.count(10), 9999);
        x.undo();
        Checks.due("undone", x.count(10), 9990);
    }

    private static void oneMoreTired() {
        Edges.terms(2, "She is one more TIRED.");
        NamedCallers x = Checks.house("st99;lp9;v;vb30;v;vb30;v;vb30");
        for (int i = 0; i < 6; i++) {
            Checks.due("tired", x.count(8), i);
            Checks.due("done or cut off", x.announce(i), i % 2 == 0 ? 1 : 0);
        }
        Checks.due("tired", x.count(8), 6);
    }

    private static void titlesAtMost() {
        Edges.terms(2, "a CALLER assumes a TITLE (3 at most; 2 COINS)");
        NamedCallers x = Checks.house("l;v;vt2;vt3");
        for (int i = 1; i <= 3; i++) {
            Checks.due("title(0)", x.title(0), i);
        }
        Checks.due("a fourth", x.title(0), NONE);
        Checks.due("title(1)", x.title(1), 3);
        Checks.due("a fourth", x.title(1), NONE);
        Checks.due("a fourth", x.title(2), NONE);
        Checks.due("four were assumed", x.rule(2), 12);
        Checks.due("acts", x.count(15), 4);
        x.drop(2);
        Checks.due("one dropped, one assumed", x.title(2), 3);
    }

    private static void titlePrice() {
        Edges.terms(2, "2 COINS");
        Checks.due("none", Checks.house("sc0;l;v").title(0), NONE);
        Checks.due("one", Checks.house("sc1;l;v").title(0), NONE);
        NamedCallers two = Checks.house("sc2;l;v");
        Checks.due("two", two.title(0), 1);
        Checks.due("none is left", two.rule(2), 0);
        NamedCallers three = Checks.house("sc3;l;v");
        Checks.due("three", three.title(0), 1);
        Checks.due("one is left", three.rule(2), 1);
        Checks.due("too few", three.title(0), NONE);
        three.announce(0);
        three.day();
        Checks.due("two again", three.title(0), 2);
    }

    private static void drops() {
        Edges.terms(2, "he drops one (one less)");
        NamedCallers x = Checks.house("sc0;l;vt3");
        for (int i = 2; i >= 0; i--) {
            Checks.due("drop(0)", x.drop(0), i);
            Checks.due("titles", x.caller(0, 2), i);
        }
        Checks.due("none", x.drop(0), NONE);
        Checks.due("titles", x.caller(0, 2), 0);
        Checks.due("no coins for them", x.rule(2), 0);
        Checks.due("acts", x.count(15), 3);
    }

    private static void sings() {
        Edges.promise(14, "She SINGS, or not any more: whether she does then (1, 0). NONE: no HOUSE.");
        NamedCallers x = new NamedCallers();
        Checks.due("no house", x.sing(), NONE);
        Checks.due("she does not", x.count(9), 0);
        Checks.tell(x, 0, "l;v");
        Checks.due("sing", x.sing(), 1);
        Checks.due("sing", x.sing(), 0);
        Checks.due("two acts", x.count(15), 2);
    }

    private static void breathNotBeyond() {
        Edges.terms(2, "BREATH: the CLOCK 3 more (not beyond)");
        for (int left = 0; left <= 4; left++) {
            NamedCallers x = Checks.house("st" + (5 + left) + ";l;v");
            x.announce(0);
            Checks.due(left + " left", x.breath(), left < 3 ? NONE : 0);
            Checks.due("the clock", x.count(7), left < 3 ? 5 : 8);
            Checks.due("tired", x.count(8), left < 3 ? 1 : 0);
        }
    }

    private static void breathRests() {
        Edges.terms(2, "she is 2 less TIRED (0 at least");
        for (int tired = 1; tired <= 6; tired++) {
            NamedCallers x = Checks.house("st99;lp9;v;v;v;v;v;v");
            for (int i = 0; i < tired; i++) {
                x.announce(i);
            }
            Checks.due("tired " + tired, x.breath(), Math.max(0, tired - 2));
            Checks.due("tired", x.count(8), Math.max(0, tired - 2));
        }
    }

    private static void breathNotTired() {
        Edges.terms(2, "not, if she is not TIRED)");
        NamedCallers x = Checks.house("l;v");
        Checks.due("not tired", x.breath(), NONE);
        Checks.due("the clock", x.count(7), 0);
        x.announce(0);
        Checks.due("tired", x.breath(), 0);
        Checks.due("not tired any more", x.breath(), NONE);
        Checks.due("the clock", x.count(7), 8);
        Checks.due("no house", new NamedCallers().breath(), NONE);
    }

    private static void heldUpBounds() {
        Edges.terms(2, "HELD UP by n (1 .. 20) BEATS");
        int[] wrong = {Integer.MIN_VALUE, -1, 0, 21, Integer.MAX_VALUE};
        for (int n : wrong) {
            NamedCallers x = Checks.house("st99;l;v");
            Checks.due("hold(" + n + ")", x.hold(n), NONE);
            Checks.due("the clock", x.count(7), 0);
        }
        for (int n = 1; n <= 20; n++) {
            NamedCallers x = Checks.house("st99;l;v");
            Checks.due("hold(" + n + ")", x.hold(n), n);
            Checks.due("the clock", x.count(7), n);
            Checks.due("not tired", x.count(8), 0);
        }
    }

    private static void heldUpNotBeyond() {
        Edges.promise(16, "HELD UP: the CLOCK then. NONE: no HOUSE, out of bounds, beyond.");
        NamedCallers x = Checks.house("st20;l;v");
        Checks.due("hold(20) of 20", x.hold(20), 20);
        Checks.due("hold(1) of none", x.hold(1), NONE);
        NamedCallers y = Checks.house("st19;l;v");
        Checks.due("hold(20) of 19", y.hold(20), NONE);
        Checks.due("hold(18)", y.hold(18), 18);
        Checks.due("hold(2) of 1", y.hold(2), NONE);
        Checks.due("hold(1) of 1", y.hold(1), 19);
        Checks.due("no house", new NamedCallers().hold(1), NONE);
    }

    private static void lastDay() {
        Edges.terms(2, "a DAY (0 at first; 999 at most: none goes by then)");
        NamedCallers x = Checks.house("l;v");
        Checks.due("at first", x.count(6), 0);
        Checks.due("the first day", x.day(), 1);
        for (int i = 0; i < 33; i++) {
            x.years(30, i);
        }
        for (int day = 992; day <= 999; day++) {
            Checks.due("day", x.day(), day);
        }
        x.hold(7);
        int coins = x.rule(2);
        Checks.due("none goes by then", x.day(), NONE);
        Checks.due("the day", x.count(6), 999);
        Checks.due("the clock", x.count(7), 7);
        Checks.due("coins", x.rule(2), coins);
        Checks.due("other acts can be", x.sing(), 1);
        x.undo();
        x.undo();
        x.undo();
        Checks.due("undone", x.count(6), 998);
        Checks.due("one goes by", x.day(), 999);
        Checks.due("no house", new NamedCallers().day(), NONE);
    }

    private static void coinsAtMost() {
        Edges.terms(2, "COINS more by how many were DONE that DAY (999 at most)");
        NamedCallers x = Checks.house("sc99;lp9;vn1p0b1;vn1p0b1;vn1p0b1;vn1p0b1;vn1p0b1;vn1p0b1");
        Checks.tell(x, 2, "c0;c1;c2;c3;c4;c5;d;c0;c1;c2;c3;c4;c5;d");
        Checks.tell(x, 2, "c0;c1;c2;c3;c4;d");
        Checks.tell(x, 2, "c0;d");
        for (int i = 0; i < 74; i++) {
            x.perform(0);
        }
        Checks.due("99 and 74 times 12", x.rule(2), 987);
        x.perform(0);
        Checks.due("just 999", x.rule(2), 999);
        x.perform(2);
        Checks.due("no more", x.rule(2), 999);
        x.title(0);
        Checks.due("2 less", x.rule(2), 997);
        x.perform(2);
        Checks.due("1 more", x.rule(2), 998);
        x.perform(1);
        Checks.due("5 more would be 1,003", x.rule(2), 999);
        x.undo();
        Checks.due("undone", x.rule(2), 998);
        x.day();
        x.day();
        Checks.due("none was done", x.rule(2), 999);
        // by those who were done, not by those who were cut off
        NamedCallers y = Checks.house("sc0;l;v;vb30;v");
        y.announce(0);
        y.announce(1);
        y.announce(2);
        Checks.due("not before the day goes by", y.rule(2), 0);
        y.day();
        Checks.due("two", y.rule(2), 2);
        y.day();
        Checks.due("none", y.rule(2), 2);
    }

    private static void logLatestSixty() {
        Edges.terms(2, "the CLOCK (the latest 60)");
        NamedCallers x = Checks.house("l;v");
        Checks.tell(x, 2, "h1;d;h2;d;h3;d;h4;d;h5;d;h6;d;h7;d;h8;d");
        Checks.due("empty", x.count(14), 0);
        Checks.due("empty", x.log(0, 2), NONE);
        for (int i = 0; i < 7; i++) {
            x.perform(0);
        }
        Checks.due("56", x.count(14), 56);
        Checks.due("the earliest", x.log(55, 2), 1);
        Checks.due("none ahead of it", x.log(56, 2), NONE);
        for (int i = 57; i <= 60; i++) {
            x.hold(20);
            x.day();
            Checks.due("so many", x.count(14), i);
            Checks.due("the earliest", x.log(i - 1, 2), 1);
            Checks.due("none ahead of it", x.log(i, 2), NONE);
        }
        x.day();
        Checks.due("the latest 60", x.count(14), 60);
        Checks.due("the earliest is gone", x.log(59, 2), 2);
        Checks.due("none ahead of it", x.log(60, 2), NONE);
        Checks.due("the latest", x.log(0, 2), 0);
        Checks.due("the one ahead of it", x.log(1, 2), 20);
        x.undo();
        Checks.due("undone", x.count(14), 60);
        Checks.due("it is there again", x.log(59, 2), 1);
        Checks.due("the latest", x.log(0, 2), 20);
    }

    private static void logTold() {
        Edges.promise(20, "the latest (i 0), the one ahead of it (1) ..: 0 DONE, 1 ANNOUNCED, 2 CLOCK. NONE: no such ones.");
        NamedCallers x = Checks.house("st99;lp9;v;v;vb30;v;v;vb30");
        for (int i = 0; i < 6; i++) {
            x.announce(i);
        }
        x.day();
        x.announce(5);
        x.day();
        int[][] want = {{0, 32, 5}, {4, 63, 36}};
        for (int i = 0; i < 2; i++) {
            for (int what = 0; what < 3; what++) {
                Checks.due("log(" + i + ", " + what + ")", x.log(i, what), want[i][what]);
            }
        }
        int[] wrong = {Integer.MIN_VALUE, -1, Integer.MAX_VALUE};
        for (int w : wrong) {
            Checks.due("log(" + w + ", 0)", x.log(w, 0), NONE);
            Checks.due("log(0, " + w + ")", x.log(0, w), NONE);
        }
        Checks.due("log(2, 0)", x.log(2, 0), NONE);
        Checks.due("log(0, 3)", x.log(0, 3), NONE);
        Checks.due("no house", new NamedCallers().log(0, 0), NONE);
    }

    private static void newDay() {
        Edges.terms(2, "the CLOCK is 0, nobody was ANNOUNCED, she is not TIRED; SINGING and TITLES stay");
        NamedCallers x = Checks.house("lp2;vn9;v;vt1");
        x.sing();
        x.title(2);
        x.announce(0);
        x.announce(1);
        x.day();
        Checks.due("the clock", x.count(7), 0);
        Checks.due("announced", x.caller(0, 7) + x.caller(1, 7), 0);
        Checks.due("the room", x.lodger(0, 2), 2);
        Checks.due("tired", x.count(8), 0);
        Checks.due("done", x.count(11), 0);
        Checks.due("singing", x.count(9), 1);
        Checks.due("titles", x.caller(2, 2), 2);
        Checks.due("a day when nothing was", x.day(), 2);
        Checks.due("its log", x.log(0, 0) + x.log(0, 1) + x.log(0, 2), 0);
    }

    private static void latestForty() {
        Edges.terms(2, "the latest 40 can be UNDONE one by one");
        for (int acts = 38; acts <= 42; acts++) {
            NamedCallers x = Checks.house("st99;l;v");
            Checks.due("none at first", x.undo(), NONE);
            for (int i = 0; i < acts; i++) {
                x.hold(1);
                Checks.due("acts", x.count(15), Math.min(40, i + 1));
            }
            int can = Math.min(40, acts);
            for (int i = can - 1; i >= 0; i--) {
                Checks.due("undo", x.undo(), i);
                Checks.due("the clock", x.count(7), acts - can + i);
            }
            Checks.due("no more", x.undo(), NONE);
            Checks.due("the clock", x.count(7), acts - can);
            Checks.due("one more act", x.hold(2), acts - can + 2);
            Checks.due("undo", x.undo(), 0);
        }
        Edges.promise(19, "The latest ACT is UNDONE: how many still can be. NONE: none.");
        Checks.due("a new object", new NamedCallers().undo(), NONE);
    }

    private static void undoneLog() {
        Edges.terms(2, "(LOG, too)");
        // 140 days, so that the log went round more than once; the forty latest acts are days
        NamedCallers x = Checks.house("l;v");
        Checks.tell(x, 2, "h1;d;h2;d;h3;d;h4;d;h5;d;h6;d;h7;d;h8;d");
        Checks.tell(x, 2, Edges.row(10, "d"));
        for (int i = 0; i < 12; i++) {
            x.perform(0);
        }
        x.hold(9);
        x.day();
        for (int i = 0; i < 4; i++) {
            x.perform(1);
        }
        Checks.due("the day", x.count(6), 137);
        Checks.due("the log", x.log(40, 2), 9);
        Checks.due("the log", x.log(41, 2), 8);
        for (int i = 0; i < 40; i++) {
            x.undo();
        }
        Checks.due("the day", x.count(6), 97);
        Checks.due("so long", x.count(14), 60);
        Checks.due("the latest", x.log(0, 2), 9);
        for (int i = 1; i < 60; i++) {
            Checks.due("log(" + i + ", 2)", x.log(i, 2), 8 - (i - 1) % 8);
        }
        Checks.due("no more", x.undo(), NONE);
        // other days instead of those undone
        x.hold(17);
        x.day();
        Checks.due("the latest", x.log(0, 2), 17);
        Checks.due("the one ahead of it", x.log(1, 2), 9);
    }

    private static void upToTheLastCall() {
        Edges.preface("An object is used for at most 512 calls after it has been made; what later calls answer is free.");
        NamedCallers x = new NamedCallers();
        x.feed(0x6C3B7600, 0, 0, 0, 0);
        x.text(0);
        for (int call = 3; call <= 511; call++) {
            Checks.due("call " + call, x.sing(), call % 2);
        }
        Checks.due("call 512", x.undo(), 39);
    }

    private static void undone(String act, Edges.Calls ahead, Edges.Calls call) {
        String before = Portrait.of(ahead);
        String behind = Portrait.of(x -> {
            ahead.on(x);
            call.on(x);
            x.undo();
        });
        String with = Portrait.of(x -> {
            ahead.on(x);
            call.on(x);
        });
        Checks.due(act + " changes something", with.equals(before), false);
        Checks.due(act + " undone: all is as it was", behind.equals(before), true);
    }

    private static void undoneEachAct() {
        Edges.terms(2, "All these are ACTS");
        Edges.Calls ahead = x -> {
            Checks.tell(x, 0, "lp5;lp4;v;vt2;vl1;vb30;vb30");
            x.announce(0);
            x.hold(2);
            x.day();
            x.announce(1);
            x.announce(2);
            x.announce(4);
            x.title(0);
            x.sing();
        };
        NamedCallers y = Edges.after(ahead);
        Checks.due("two done of three", y.count(11) * 10 + y.count(8), 23);
        undone("announce, done", ahead, x -> x.announce(0));
        undone("announce, cut off", ahead, x -> x.announce(3));
        undone("title", ahead, x -> x.title(1));
        undone("drop", ahead, x -> x.drop(1));
        undone("sing", ahead, x -> x.sing());
        undone("breath", ahead, x -> x.breath());
        undone("hold", ahead, x -> x.hold(20));
        undone("day", ahead, x -> x.day());
        undone("a day of years", ahead, x -> x.years(1, 5));
    }
}
