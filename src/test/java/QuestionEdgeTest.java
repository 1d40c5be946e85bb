/** Edges of what is asked: Terms 3, promises 24 to 31 and 34 to 43. Each sentence has a test of its own. */
public final class QuestionEdgeTest {
    private static final int NONE = NamedCallers.NONE;
    private static final int HIDDEN = NamedCallers.HIDDEN;
    private static final String SIX = "st99;lp9;v;v;v;v;v;v";

    public static void main(String[] args) {
        announcedOrNot();
        would();
        rowOfNone();
        rowOfAll();
        rowAsTheyCanBe();
        rowByTies();
        gainAddedUp();
        needs();
        timed();
        heardTen();
        heardBounds();
        heardOrLonger();
        heardPlainly();
        hards();
        askLeastApart();
        askNothingFits();
        toldApart();
        odds();
        oddsCut();
        mean();
        left();
        room();
        ofSeveralTheLowest();
        due();
        ready();
        ofLodger();
        allNames();
        queueRow();
        queueUpToTheFirst();
        sung();
        span();
        counts();
        Checks.finish();
    }

    private static void announcedOrNot() {
        Edges.terms(3, "LONG: how much the NAME of a CALLER takes now (ANNOUNCED or not)");
        NamedCallers x = Checks.house("l;v;v");
        x.announce(0);
        x.announce(1);
        Checks.due("announced", x.name(0, 0), 6);
        x.day();
        Checks.due("not announced", x.name(0, 0), 5);
        // neither beats nor patience matter
        NamedCallers y = Checks.house("st1;lp0;v");
        Checks.due("too long to be announced", y.name(0, 0), 5);
        Checks.due("done, if it were", y.name(0, 1), 1);
    }

    private static void would() {
        Edges.terms(3, "WOULD: whether his BUSINESS would be DONE by that (1, 0)");
        NamedCallers x = Checks.house("l;vb4;vb5;vb6");
        Checks.due("longer", x.name(0, 1), 1);
        Checks.due("as long", x.name(1, 1), 1);
        Checks.due("one shorter", x.name(2, 1), 0);
    }

    private static void order(NamedCallers x, String as, int row, int gain, int clock) {
        Checks.due("order(0) of " + as, x.order(0), row);
        Checks.due("order(1) of " + as, x.order(1), gain);
        Checks.due("order(2) of " + as, x.order(2), clock);
    }

    private static void order(String house, int row, int gain, int clock) {
        order(Checks.house(house), house, row, gain, clock);
    }

    private static void rowOfNone() {
        Edges.terms(3, "ORDER: rows of unlike CALLERS (digits; none, too)");
        order("st4;l;v", NONE, 0, 0);
        order("lp0;v", NONE, 0, 0);
        order("l;vb30", NONE, 0, 0);
        order("lw0;vw0", NONE, 0, 0);
        NamedCallers x = Checks.house("l;v;v");
        x.hold(7);
        x.announce(1);
        x.announce(0);
        order(x, "all were announced", NONE, 0, 17);
    }

    private static void rowOfAll() {
        Edges.terms(3, "who are ANNOUNCED one behind the other from now on");
        order(SIX, 12345, 30, 36);
        // who is done only when she is tired comes late
        order("st99;lp9;vb7;vb7;vb6;vb6;vb5;vb5", 452301, 30, 36);
        NamedCallers x = Checks.house("lp9;v;v;v;v");
        x.announce(1);
        order(x, "one was announced", 23, 15, 5 + 5 + 6 + 6);
    }

    private static void rowAsTheyCanBe() {
        Edges.terms(3, "(as they can be)");
        order("st10;lp9;v;v", 1, 10, 10);
        order("st9;lp9;v;v", 0, 5, 5);
        order("lp2;v;v;v", 1, 10, 10);
        order("lp1;v;v;v", 0, 5, 5);
        order("lp1;lp1;v;v;vl1;vl1", 2, 10, 10);
        // calls that he received ahead of it count
        NamedCallers x = Checks.house("lp2;v;v;v");
        x.announce(1);
        order(x, "one of two was received", 0, 5, 10);
        x.announce(0);
        order(x, "two of two were received", NONE, 0, 10);
        // who is cut off may stand in it, if that tires her
        order("lw2p9;vn1p0b30w0;vn1p0b30w0;vb6w9", 12, 11, 1 + 1 + 6);
        // one behind the other: the third takes 6
        order("st16;lp9;v;v;v", 12, 15, 16);
        order("st15;lp9;v;v;v", 1, 10, 10);
    }

    private static void rowByTies() {
        Edges.terms(3, "(of several that with the earliest CLOCK then, then the shortest, then the least row)");
        order("lp1;vn4;v", 1, 5, 5);
        order("lp1;v;vn4", 0, 5, 5);
        order("lp1;vn4b1;vn3b1;vn2b1", 2, 5, 4);
        // as early: the shorter one, though its row is the greater number
        order("st4;lw0p9;vn1p0b1w3;vn3p0b1w3;vn4p0b1w6", 2, 6, 4);
        order("st4;lw0p9;vn4p0b1w6;vn1p0b1w3;vn3p0b1w3", 0, 6, 4);
        // as early and as short
        order("lp1;v;v", 0, 5, 5);
        order("lp2;vb30;v;v;v", 12, 10, 10);
        // more gain goes ahead of all this
        order("lp1;vn1p0b1w2;vn9p5b1w3", 1, 5, 19);
    }

    private static void gainAddedUp() {
        Edges.terms(3, "the one that brings most GAIN (each one's added up)");
        NamedCallers x = Edges.gained(50);
        for (int i = 0; i < 4; i++) {
            x.announce(i);
        }
        Checks.due("gain", x.count(10), 9972);
        Checks.due("27 more, to just 9,999", x.order(1), 27);
        x.announce(4);
        x.day();
        Checks.due("gain", x.count(10), 9990);
        Checks.due("more than up to 9,999", x.order(1), 99);
    }

    private static void needs() {
        Edges.terms(3, "the fewest TITLES in all (0 .. 3) by which his BUSINESS would be DONE now");
        int[] want = {0, 0, 0, 0, 0, 1, 1, 2, 2, 3, 3, NONE, NONE};
        for (int business = 1; business <= 13; business++) {
            NamedCallers x = Checks.house("l;vb" + business + ";vt3b" + business);
            Checks.due("needs for " + business, x.needs(0), want[business - 1]);
            Checks.due("in all, however many he has", x.needs(1), want[business - 1]);
        }
        Edges.promise(26, "NONE: by none, no such CALLER.");
        NamedCallers x = Checks.house("l;vb30");
        Checks.tell(x, 1, "y:t=3?30;y:29");
        Checks.tell(x, 1, "y:t=0?30;y:29");
        Checks.tell(x, 1, "y:t=4?30;y:29");
        x.law(0);
        Checks.due("by three", x.needs(0), 3);
        x.law(1);
        Checks.due("by none of them", x.needs(0), 0);
        x.law(2);
        Checks.due("by none", x.needs(0), NONE);
    }

    private static void timed() {
        Edges.terms(3, "TIMED for b (1 .. 60): CALLERS (bits) whose NAME takes just so long now");
        NamedCallers x = Checks.house("sh9;l;vn1p0;vn9p5t3;vn2p0;vn9p5t3;vn1p0;vn2p0");
        int[] wrong = {Integer.MIN_VALUE, -1, 0, 61, Integer.MAX_VALUE};
        for (int b : wrong) {
            Checks.due("timed(" + b + ")", x.timed(b), NONE);
        }
        Checks.due("timed(1)", x.timed(1), 1 + 16);
        Checks.due("timed(2)", x.timed(2), 4 + 32);
        Checks.due("timed(3)", x.timed(3), 0);
        Checks.due("timed(59)", x.timed(59), 0);
        Checks.due("timed(60)", x.timed(60), 2 + 8);
        Checks.due("all six", Checks.house(SIX).timed(5), 63);
        Checks.due("no house", new NamedCallers().timed(1), NONE);
    }

    private static void heardTen() {
        Edges.terms(3, "HEARD (10 at most)");
        NamedCallers x = Checks.house("l;v;v");
        for (int i = 1; i <= 10; i++) {
            Checks.due("heard", x.heard(i % 2, i == 10 ? 5 : 1, true), i);
            Checks.due("count(13)", x.count(13), i);
        }
        Checks.due("the tenth counts", x.hards(0), 62);
        Checks.due("an eleventh", x.heard(1, 60, true), NONE);
        Checks.due("count(13)", x.count(13), 10);
        Checks.due("it was not heard", x.hards(1), 63);
    }

    private static void heardBounds() {
        Edges.promise(28, "NONE: no such CALLER, out of bounds, there are ten.");
        NamedCallers x = Checks.house("l;v;v");
        int[] wrong = {Integer.MIN_VALUE, -1, 0, 61, Integer.MAX_VALUE};
        for (int b : wrong) {
            Checks.due("heard(0, " + b + ")", x.heard(0, b, true), NONE);
            Checks.due("heard(0, " + b + ")", x.heard(0, b, false), NONE);
        }
        int[] nobody = {Integer.MIN_VALUE, -1, 2, Integer.MAX_VALUE};
        for (int caller : nobody) {
            Checks.due("heard(" + caller + ", 1)", x.heard(caller, 1, true), NONE);
        }
        Checks.due("nothing was heard", x.count(13), 0);
        Checks.due("heard(0, 1)", x.heard(0, 1, true), 1);
        Checks.due("heard(1, 60)", x.heard(1, 60, false), 2);
        Checks.due("no act", x.count(15), 0);
        Checks.due("no house", new NamedCallers().heard(0, 1, true), NONE);
    }

    private static void heardOnce(int b, boolean longer, int want) {
        NamedCallers x = Checks.house("l;v");
        Checks.due("heard", x.heard(0, b, longer), 1);
        Checks.due("hards by " + b + " or longer: " + longer, x.hards(0), want);
    }

    private static void heardOrLonger() {
        Edges.terms(3, "took b (1 .. 60) BEATS or longer, or did not");
        // by 0 .. 5 hard sounds it takes 3 5 7 9 11 13
        heardOnce(1, true, 63);
        heardOnce(3, true, 63);
        heardOnce(4, true, 62);
        heardOnce(5, true, 62);
        heardOnce(6, true, 60);
        heardOnce(13, true, 32);
        heardOnce(14, true, 0);
        heardOnce(60, true, 0);
        heardOnce(1, false, 0);
        heardOnce(3, false, 0);
        heardOnce(4, false, 1);
        heardOnce(5, false, 1);
        heardOnce(6, false, 3);
        heardOnce(13, false, 31);
        heardOnce(14, false, 63);
        heardOnce(60, false, 63);
    }

    private static void heardPlainly() {
        Edges.terms(3, "without TITLES, not SUNG, she not TIRED, on DAY 0");
        NamedCallers x = Checks.house("l;vt3;v");
        Checks.tell(x, 1, "y:p*5+1+t*30+s*30+g*30+d*30");
        x.sing();
        x.day();
        x.announce(1);
        x.heard(0, 11, true);
        x.heard(0, 22, false);
        Checks.due("without a law: 3 5 7 9 11 13", x.hards(0), 48);
        x.law(0);
        Checks.due("by the law: 1 6 11 16 21 26", x.hards(0), 4 + 8 + 16);
        Checks.due("ask goes by the same: 2 and 1 of the first, 3 and 3 of the other", x.ask(12), 1);
    }

    private static void hards() {
        Edges.terms(3, "how many HARD sounds (0 .. 5) he may have so that all HEARD of him is so: bits");
        NamedCallers x = Checks.house("l;vp5;vp0");
        Checks.due("all fit when nothing was heard", x.hards(0), 63);
        x.heard(0, 5, true);
        x.heard(0, 6, false);
        Checks.due("one fits", x.hards(0), 2);
        Checks.due("nothing was heard of the other", x.hards(1), 63);
        x.heard(0, 60, true);
        Checks.due("none fits", x.hards(0), 0);
        x.heard(1, 13, true);
        Checks.due("five alone", x.hards(1), 32);
    }

    private static void askLeastApart() {
        Edges.terms(3, "the CALLER for whom of his HARDS those by which it takes b or longer and the others are least apart in number");
        // they take 1 3 5 7 9 11; 3 5 7 9 11 13; 9 11 13 15 17 19
        NamedCallers x = Checks.house("l;vn1;vn3;vn9");
        int[] wrong = {Integer.MIN_VALUE, -1, 0, 61, Integer.MAX_VALUE};
        for (int b : wrong) {
            Checks.due("ask(" + b + ")", x.ask(b), NONE);
        }
        int[] want = {0, 0, 0, 0, 0, 0, 0, 1, 1, 1, 1, 2, 2, 2, 2, 2, 2, 2, 2, 0};
        for (int b = 1; b <= 20; b++) {
            Checks.due("ask(" + b + ")", x.ask(b), want[b - 1]);
        }
        Checks.due("ask(60)", x.ask(60), 0);
        Edges.terms(3, "of several the lowest");
        Checks.due("alike", Checks.house("l;v;v;v").ask(8), 0);
        Checks.due("of the second and third", Checks.house("l;vn9;v;v").ask(8), 1);
        Edges.terms(3, "of his HARDS");
        x.heard(0, 7, true);
        // 7 9 11 of the first: 2 and 1 by 9; of the second 3 and 3
        Checks.due("ask(9)", x.ask(9), 1);
        x.heard(1, 9, true);
        // 9 11 13 of the second: 2 and 1 by 11; 1 and 2 of the first
        Checks.due("ask(11)", x.ask(11), 0);
        x.heard(0, 9, true);
        // 9 11 of the first: 1 and 1
        Checks.due("ask(11)", x.ask(11), 0);
        Checks.due("ask(13)", x.ask(13), 1);
    }

    private static void askNothingFits() {
        Edges.terms(3, "those whom nothing fits: not");
        NamedCallers x = Checks.house("l;v;v");
        x.heard(0, 60, true);
        Checks.due("the other, though he is six apart", x.ask(1), 1);
        Edges.promise(30, "NONE: nothing fits of any, no HOUSE, out of bounds.");
        x.heard(1, 60, true);
        Checks.due("nothing fits of any", x.ask(1), NONE);
        Checks.due("no house", new NamedCallers().ask(1), NONE);
    }

    private static void toldApart() {
        Edges.terms(3, "TOLD APART for a set of CALLERS (bits, two at least): by how many of their first SOUNDS (1, 2) all of them are unlike");
        NamedCallers x = Checks.house("l;va0;va10;va20;va31;va99;va98");
        Checks.due("none", x.apart(0), NONE);
        for (int i = 0; i < 6; i++) {
            Checks.due("one alone", x.apart(1 << i), NONE);
        }
        Checks.due("two", x.apart(3), 1);
        Checks.due("two", x.apart(32 + 16), 2);
        Checks.due("five, by one", x.apart(31), 1);
        Checks.due("six, by two", x.apart(63), 2);
        int[] wrong = {64, 64 + 3, -1, Integer.MIN_VALUE, Integer.MIN_VALUE + 3, Integer.MAX_VALUE};
        for (int set : wrong) {
            Checks.due("apart(" + set + ")", x.apart(set), NONE);
        }
        NamedCallers y = Checks.house("l;va5;va5;va15");
        Checks.due("by neither", y.apart(3), NONE);
        Checks.due("by neither, of three", y.apart(7), NONE);
        Checks.due("by one", y.apart(6), 1);
        Checks.due("a caller that is not there", y.apart(8 + 4 + 1), NONE);
        Checks.due("a caller that is not there", y.apart(8 + 4), NONE);
    }

    private static void odds() {
        Edges.terms(3, "ODDS of a CALLER for a chance (0 .. 100)");
        NamedCallers x = Checks.house("l;vp1b5;vp0b3;vp0b4;vp5b13;vp5b3");
        int[] wrong = {Integer.MIN_VALUE, -1, 101, Integer.MAX_VALUE};
        for (int chance : wrong) {
            Checks.due("odds(0, " + chance + ")", x.odds(0, chance), NONE);
        }
        for (int chance = 0; chance <= 100; chance++) {
            Checks.due("one that must not slip", x.odds(0, chance), (100 - chance) * 10000000);
            Checks.due("without hard sounds, done", x.odds(1, chance), 1000000000);
            Checks.due("without hard sounds, not done", x.odds(2, chance), 0);
        }
        Checks.due("none slips", x.odds(3, 0), 1000000000);
        Checks.due("all slip", x.odds(3, 100), 0);
        Checks.due("all slip, done all the same", x.odds(4, 100), 1000000000);
        Checks.due("half of them", x.odds(4, 50), 1000000000);
    }

    private static void oddsCut() {
        Edges.terms(3, "of 10 to the 9 parts those by which his BUSINESS would be DONE (of each part chance 100ths, cut, slip)");
        NamedCallers x = Checks.house("l;vp5b30;vp4b30;vp1b30");
        Checks.tell(x, 1, "y:p=0?30;y:1");
        x.law(0);
        // all slip: 10,000,000; 100,000; 1,000; 10; 0
        Checks.due("five by 1", x.odds(0, 1), 0);
        Checks.due("four by 1", x.odds(1, 1), 10);
        // 30,000,000; 900,000; 27,000; 810; 24.3
        Checks.due("five by 3", x.odds(0, 3), 24);
        Checks.due("four by 3", x.odds(1, 3), 810);
        Checks.due("one by 99", x.odds(2, 99), 990000000);
        Checks.due("five by 100", x.odds(0, 100), 1000000000);
        Checks.due("five by 0", x.odds(0, 0), 0);
    }

    private static void mean() {
        Edges.terms(3, "MEAN of a CALLER: 100 times how much his NAME takes on the average, if he had 0 .. 5 HARD sounds");
        NamedCallers x = Checks.house("sh1;l;vn1p5;vn1p0;vn9t3;vn2b1;vn1b1");
        Checks.due("1 to 6", x.mean(0), 350);
        Checks.due("however many he has", x.mean(1), 350);
        Checks.due("15 to 20", x.mean(2), 1750);
        Edges.terms(3, "(all as now else), each alike likely, cut");
        x.sing();
        // 0 1 1 2 2 3, the first held within 1 .. 60
        Checks.due("10 of 6", x.mean(0), 166);
        // 1 1 2 2 3 3
        Checks.due("12 of 6", x.mean(3), 200);
        NamedCallers y = Checks.house("sh9;lp9;vn9t3;vn1p0b1;vn1p0b1");
        Checks.due("15 24 33 42 51 60", y.mean(0), 3750);
        y.announce(1);
        y.announce(2);
        Checks.due("16 25 34 43 52 60", y.mean(0), 3833);
    }

    private static void left() {
        Edges.terms(3, "LEFT: BEATS that are left");
        NamedCallers x = Checks.house("st20;l;v");
        Checks.due("all", x.all(0), 20);
        x.announce(0);
        Checks.due("15", x.all(0), 15);
        x.hold(15);
        Checks.due("none", x.all(0), 0);
        x.day();
        Checks.due("all", x.all(0), 20);
    }

    private static void room() {
        Edges.terms(3, "ROOM of a LODGER: how many calls he would still receive");
        NamedCallers x = Checks.house("lp2;lp0;lp9;v;vb30;vl2");
        Checks.due("two", x.lodger(0, 2), 2);
        Checks.due("none", x.lodger(1, 2), 0);
        Checks.due("nine", x.lodger(2, 2), 9);
        x.announce(0);
        x.announce(1);
        Checks.due("full", x.lodger(0, 2), 0);
        Checks.due("not his", x.lodger(2, 2), 9);
        x.undo();
        Checks.due("one", x.lodger(0, 2), 1);
        x.day();
        Checks.due("two", x.lodger(0, 2), 2);
    }

    private static void ofSeveralTheLowest() {
        Edges.terms(3, "GRANDEST by TITLES (of several the lowest, all)");
        NamedCallers alike = Checks.house("l;l;l;l;v;v;v;v;v;v");
        for (int what = 1; what <= 6; what++) {
            Checks.due("all(" + what + ") of alike ones", alike.all(what), 0);
        }
        // longest, shortest, dearest, busiest, grandest, keenest: the last but one and the last are alike
        NamedCallers late = Checks.house("lw1;lw1;lw9;lw9;vn3;vn3;vn3;vn3;vn9p5w9b30t3;vn9p5w9b30t3");
        int[] want = {4, 0, 4, 4, 4, 2};
        for (int what = 1; what <= 6; what++) {
            Checks.due("all(" + what + ")", late.all(what), want[what - 1]);
        }
        NamedCallers last = Checks.house("lw0;lw0;lw0;lw9;vn9;vn9;vn9;vn9;vn9;vn1p0w9b30t3");
        Checks.due("the longest", last.all(1), 0);
        Checks.due("the shortest", last.all(2), 5);
        Checks.due("the dearest", last.all(3), 5);
        Checks.due("the busiest", last.all(4), 5);
        Checks.due("the grandest", last.all(5), 5);
        Checks.due("the keenest", last.all(6), 3);
        // each by its own: whoever is first in one is last in the others
        NamedCallers own = Checks.house("lw3;lw9;lw4;lw3;vn9p5;vn1p0;vw9;vb30;vt3");
        int[] each = {0, 1, 2, 3, 4, 1};
        for (int what = 1; what <= 6; what++) {
            Checks.due("all(" + what + ")", own.all(what), each[what - 1]);
        }
        for (int lodger = 0; lodger < 4; lodger++) {
            StringBuilder house = new StringBuilder("v");
            for (int i = 0; i < 4; i++) {
                house.append(i == lodger ? ";lw1" : ";lw0");
            }
            Checks.due("the keenest", Checks.house(house.toString()).all(6), lodger);
        }
        Edges.terms(3, "LONGEST: the CALLER whose NAME takes most now");
        NamedCallers now = Checks.house("l;v;vn4");
        Checks.due("the longer", now.all(1), 1);
        now.title(0);
        Checks.due("by a title", now.all(1), 0);
        Checks.due("the grander", now.all(5), 0);
        Checks.due("the shorter", now.all(2), 1);
        now.announce(0);
        Checks.due("announced or not", now.all(1), 0);
    }

    private static void due() {
        Edges.terms(3, "DUE: CALLERS (bits) who could be ANNOUNCED now");
        NamedCallers x = Checks.house("st11;lp9;lp0;lp1;v;vn4;vn8;vn9;vl1;vl2");
        Checks.due("12 beats are too long by one, no patience", x.all(7), 1 + 2 + 4 + 8 + 32);
        x.announce(5);
        Checks.due("6 left", x.all(7), 1 + 2);
        x.hold(1);
        Checks.due("5 left", x.all(7), 1);
        x.hold(1);
        Checks.due("nobody", x.all(7), 0);
        Checks.due("everybody", Checks.house(SIX).all(7), 63);
        NamedCallers y = Checks.house("lp2;v;v;v");
        y.announce(1);
        Checks.due("he was", y.all(7), 1 + 4);
        y.announce(0);
        Checks.due("no patience left", y.all(7), 0);
    }

    private static void ready() {
        Edges.terms(3, "READY: CALLERS (bits) whose BUSINESS would be DONE");
        Checks.due("everybody, though nobody could be announced", Checks.house("st1;lp0;v;v;v;v;v;v").all(8), 63);
        Checks.due("nobody", Checks.house("l;vb6;vb30").all(8), 0);
        NamedCallers x = Checks.house("l;vb4;vb5;vb6");
        Checks.due("as long, and longer", x.all(8), 3);
        x.announce(0);
        x.announce(1);
        Checks.due("announced or not", x.all(8), 7);
    }

    private static void ofLodger() {
        Edges.promise(37, "OF a LODGER, as bits. NONE: no such one.");
        NamedCallers x = Checks.house("l;l;l;l;vl3;v;vl3;v;v;vl2");
        int[] want = {2 + 8 + 16, 0, 32, 1 + 4};
        for (int lodger = 0; lodger < 4; lodger++) {
            Checks.due("whose(" + lodger + ")", x.whose(lodger), want[lodger]);
        }
        int[] wrong = {Integer.MIN_VALUE, -1, 4, Integer.MAX_VALUE};
        for (int lodger : wrong) {
            Checks.due("whose(" + lodger + ")", x.whose(lodger), NONE);
        }
        Checks.due("all six", Checks.house(SIX).whose(0), 63);
        Checks.due("whose(1) of one lodger", Checks.house(SIX).whose(1), NONE);
    }

    private static void allNames() {
        Edges.terms(3, "ALL: the BEATS that all NAMES take together, ANNOUNCED by numbers from now on (nothing else matters)");
        Checks.due("one", Checks.house("l;v").all(9), 5);
        NamedCallers x = Checks.house("st1;lp0;v;v;v;v;v;v");
        Checks.due("neither beats nor patience matter", x.all(9), 5 + 5 + 6 + 6 + 7 + 7);
        Checks.tell(x, 1, "y:60");
        Checks.tell(x, 1, "y:g");
        x.law(0);
        Checks.due("the most", x.all(9), 360);
        x.law(1);
        Checks.due("0 held within 1 .. 60, 1 to 5", x.all(9), 1 + 1 + 2 + 3 + 4 + 5);
        NamedCallers y = Checks.house("lp9;v;v;v");
        y.announce(0);
        y.announce(1);
        Checks.due("nor whether they were announced", y.all(9), 6 + 6 + 7);
    }

    private static void queueRow() {
        Edges.terms(3, "whose NAMES take least now first (digits, the first the highest; of several the lowest; nobody: NONE)");
        NamedCallers x = Checks.house("lp9;vn6;vn5;vn4;vn3;vn2;vn1");
        Checks.due("all six", x.queue(0), 543210);
        Checks.due("of several the lowest", Checks.house(SIX).queue(0), 12345);
        Checks.due("of several the lowest", Checks.house("l;vn5;v;vn5;v").queue(0), 1302);
        NamedCallers y = Checks.house("lp9;vn4;v");
        Checks.due("both", y.queue(0), 10);
        y.announce(1);
        Checks.due("the first alone", y.queue(0), 0);
        y.announce(0);
        Checks.due("nobody", y.queue(0), NONE);
        Checks.due("none of them", y.queue(1), 0);
        y.day();
        Checks.due("on the next day", y.queue(0), 10);
        // names that take the most and the least that there can be
        Checks.tell(y, 1, "y:60");
        Checks.tell(y, 1, "y:1");
        Checks.tell(y, 1, "y:n=4?60;y:59");
        Checks.tell(y, 1, "y:n=4?59;y:60");
        int[] want = {1, 1, 10, 1};
        for (int law = 0; law < 4; law++) {
            y.law(law);
            Checks.due("the row by law " + law, y.queue(0), want[law]);
        }
    }

    private static void queueUpToTheFirst() {
        Edges.terms(3, "how many of them could be ANNOUNCED so, one behind the other, up to the first who can't be");
        Checks.due("none", Checks.house("st4;l;v;v").queue(1), 0);
        Checks.due("all six", Checks.house(SIX).queue(1), 6);
        Checks.due("5 5 6: all", Checks.house("st16;l;v;v;v").queue(1), 3);
        Checks.due("5 5 6: one beat too few", Checks.house("st15;l;v;v;v").queue(1), 2);
        Checks.due("as many as patience", Checks.house("lp2;v;v;v").queue(1), 2);
        // the first can't be; those behind him could
        Checks.due("up to the first", Checks.house("lp0;l;v;vn4l1;vn4l1").queue(1), 0);
        Checks.due("up to the second", Checks.house("lp1;l;v;v;vn4l1").queue(1), 1);
        // the row is by what they take now, not by what they take then
        NamedCallers x = Checks.house("lp9;vn4;vn9");
        Checks.tell(x, 1, "y:g=0?n;y:10-n");
        x.law(0);
        Checks.due("the row", x.queue(0), 1);
        Checks.due("both", x.queue(1), 2);
    }

    private static void sung() {
        Edges.terms(3, "SUNG of a CALLER: how much his NAME takes now, if she SINGS; if she does not");
        NamedCallers x = Checks.house("lp9;vn1p0;v;v");
        for (int song = 0; song <= 1; song++) {
            Checks.due("1 by 2, held within 1 .. 60", x.sung(0, 0), 1);
            Checks.due("1", x.sung(0, 1), 1);
            Checks.due("5 by 2, cut", x.sung(1, 0), 2);
            Checks.due("5", x.sung(1, 1), 5);
            x.sing();
        }
        x.announce(1);
        x.announce(2);
        Checks.due("now, when she is tired", x.sung(1, 0), 3);
        Checks.due("now, when she is tired", x.sung(1, 1), 6);
        Checks.tell(x, 1, "y:20+s*7");
        x.law(0);
        for (int song = 0; song <= 1; song++) {
            Checks.due("by the law, if she sings", x.sung(0, 0), 27);
            Checks.due("by the law, if she does not", x.sung(0, 1), 20);
            x.sing();
        }
    }

    private static void span() {
        Edges.terms(3, "how many TITLES more at most he could have so that he is not longer than what is LEFT (0 .. 3 in all)");
        int[] want = {NONE, 0, 0, 1, 1, 2, 2, 3, 3};
        for (int left = 4; left <= 12; left++) {
            NamedCallers x = Checks.house("st" + left + ";l;v;vt1;vt2;vt3");
            for (int titles = 0; titles <= 3; titles++) {
                int inAll = want[left - 4];
                boolean tooLong = 5 + 2 * titles > left;
                Checks.due(titles + " of " + left, x.span(titles), tooLong ? NONE : inAll - titles);
            }
        }
        Checks.due("three in all at most", Checks.house("st99;l;vt2").span(0), 1);
        Edges.promise(40, "NONE: too long as he is, no such CALLER.");
        NamedCallers x = Checks.house("st20;lp0;v");
        Checks.tell(x, 1, "y:t=0?21;y:1");
        Checks.tell(x, 1, "y:t=0?20;y:t=3?20;y:21");
        x.law(0);
        Checks.due("too long as he is, though not with a title", x.span(0), NONE);
        x.law(1);
        Checks.due("at most", x.span(0), 3);
    }

    private static void counts() {
        Edges.promise(43, "HIDDEN for others.");
        int[] wrong = {Integer.MIN_VALUE, -2, -1, 16, 17, Integer.MAX_VALUE};
        NamedCallers x = Checks.house(SIX);
        for (int what : wrong) {
            Checks.due("count(" + what + ")", x.count(what), HIDDEN);
            Checks.due("count(" + what + ") without a house", new NamedCallers().count(what), HIDDEN);
        }
        Edges.promise(43, "0 CALLERS, 1 LODGERS, 2 LAWS, 3 AFTERNOONS, 4 bytes of the TAPE, 5 the LAW that holds (NONE), 6 the DAY, 7 the CLOCK");
        NamedCallers y = Checks.house("l;l;v;v;v");
        Checks.tell(y, 1, "y:5");
        Checks.tell(y, 1, "y:6");
        Checks.tell(y, 1, "y:7");
        Checks.tell(y, 2, "g");
        Checks.tape(y, "12345678");
        y.law(1);
        y.whim(9);
        y.heard(0, 1, true);
        y.day();
        y.day();
        y.sing();
        y.announce(0);
        y.announce(1);
        int[] want = {3, 2, 3, 1, 8, 1, 2, 12, 2, 1, 10, 2, 9, 1, 2, 5};
        for (int what = 0; what < want.length; what++) {
            Checks.due("count(" + what + ")", y.count(what), want[what]);
        }
    }
}
