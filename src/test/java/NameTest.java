/** Promises 24 to 31: names, orders, needs, timed, what was heard, told apart. */
public final class NameTest {
    public static void main(String[] args) {
        names();
        orders();
        needs();
        timed();
        heard();
        asked();
        toldApart();
        Checks.finish();
    }

    private static void names() {
        NamedCallers x = Checks.house("sh3;l;vn2p2b8;vn2p2b9");
        Checks.due("long", x.name(0, 0), 8);
        Checks.due("would", x.name(0, 1), 1);
        Checks.due("would not", x.name(1, 1), 0);
        Checks.due("no such", x.name(2, 0), -1);
        Checks.due("no such", x.name(-1, 0), -1);
        Checks.due("no such", x.name(0, 2), -1);
        Checks.due("no such", x.name(0, -1), -1);
        x.announce(0);
        x.announce(1);
        Checks.due("announced or not", x.name(0, 0), 9);
        Checks.due("announced or not", x.name(1, 1), 1);
    }

    private static void order(String house, int row, int gain, int clock) {
        NamedCallers x = Checks.house(house);
        orderIs(x, house, row, gain, clock);
    }

    private static void orderIs(NamedCallers x, String house, int row, int gain, int clock) {
        Checks.due("order(0) of " + house, x.order(0), row);
        Checks.due("order(1) of " + house, x.order(1), gain);
        Checks.due("order(2) of " + house, x.order(2), clock);
    }

    private static void orders() {
        order("l;v", 0, 5, 5);
        order("l;v;v;v", 12, 15, 16);
        // of several the earliest clock: the shorter of two alike, then the least row
        order("lp1;vn4;v", 1, 5, 5);
        order("lp1;v;v", 0, 5, 5);
        // of several as early the shortest, be it found sooner or later
        order("st4;lw0;vn1p0b1w3;vn3p0b1w3;vn4p0b1w6", 2, 6, 4);
        order("st4;lw0;vn4p0b1w6;vn1p0b1w3;vn3p0b1w3", 0, 6, 4);
        // one more would be announced for nothing: not
        order("lw0;vb30;v;vb1w0", 1, 3, 5);
        // nobody whose business is done
        order("l;vb30", -1, 0, 0);
        order("st4;l;v", -1, 0, 0);
        // one is cut off at first, and done when she is tired
        order("l;vb6;v;v", 120, 15, 16);
        // a caller cut off comes first to tire her
        triedByHand("lp9;vn1p0b30w0;v;vb6w9");
        // the longer one would leave no beats for two others
        order("st10;lp9;vn9p0b1w5;v;v", 12, 10, 10);
        order("st10;lp9;vn9p0b1w9;v;v", 0, 11, 9);
        NamedCallers x = Checks.house("l;v;v;v");
        x.announce(0);
        x.hold(3);
        orderIs(x, "as it is", 12, 10, 19);
        x.announce(2);
        x.announce(1);
        orderIs(x, "nobody left", -1, 0, 19);
        Checks.due("no such what", x.order(3), -1);
        Checks.due("no such what", x.order(-1), -1);
        Checks.due("changes nothing", x.count(15), 4);
        // gain is added up beyond what GAIN can be
        NamedCallers y = Checks.house("lw9;lw9;vb1w9;vb1w9l1;vb1w9");
        for (int i = 0; i < 30; i++) {
            y.years(30, 7 * i);
        }
        Checks.due("gain at most", y.count(10), 9999);
        Checks.due("each one's added up", y.order(1), 54);
        Checks.due("announced", y.announce(0), 1);
    }

    /** All rows of three, each announced and undone: none may bring more than the order. */
    private static void triedByHand(String house) {
        NamedCallers x = Checks.house(house);
        int best = 0;
        for (int a = 0; a < 3; a++) {
            for (int b = 0; b < 3; b++) {
                if (a != b) {
                    x.announce(a);
                    x.announce(b);
                    x.announce(3 - a - b);
                    best = Math.max(best, x.count(10));
                    x.undo();
                    x.undo();
                    x.undo();
                }
            }
        }
        Checks.due("order(1) of " + house, x.order(1), best);
    }

    private static void needs() {
        NamedCallers x = Checks.house("l;vb5;vb6;vb7;vb8;vb11;vb12t3");
        int[] want = {0, 1, 1, 2, 3, -1};
        for (int i = 0; i < want.length; i++) {
            Checks.due("needs(" + i + ")", x.needs(i), want[i]);
        }
        Checks.due("no such", x.needs(6), -1);
        Checks.due("no such", x.needs(-1), -1);
        x.announce(0);
        x.announce(1);
        Checks.due("tired", x.needs(1), 0);
        Checks.tell(x, 1, "y:t=2?30;y:1");
        x.law(0);
        Checks.due("by a law", x.needs(5), 2);
    }

    private static void timed() {
        NamedCallers x = Checks.house("l;v;vn4;v;vn1p0");
        Checks.due("timed(5)", x.timed(5), 5);
        Checks.due("timed(6)", x.timed(6), 2);
        Checks.due("timed(1)", x.timed(1), 8);
        Checks.due("timed(60)", x.timed(60), 0);
        Checks.due("timed(0)", x.timed(0), -1);
        Checks.due("timed(61)", x.timed(61), -1);
        x.announce(0);
        x.announce(1);
        Checks.due("announced or not", x.timed(6), 5);
    }

    private static void heard() {
        NamedCallers x = Checks.house("l;vn3p2t3;vn4");
        x.sing();
        x.announce(0);
        x.day();
        Checks.due("no such", x.heard(2, 5, true), -1);
        Checks.due("no such", x.heard(-1, 5, true), -1);
        Checks.due("out of bounds", x.heard(0, 0, true), -1);
        Checks.due("out of bounds", x.heard(0, 61, true), -1);
        Checks.due("nothing heard", x.hards(0), 63);
        Checks.due("heard", x.heard(0, 5, true), 1);
        Checks.due("5 or longer: 1 at least", x.hards(0), 62);
        Checks.due("nothing of him", x.hards(1), 63);
        Checks.due("heard", x.heard(0, 10, false), 2);
        Checks.due("shorter than 10: 3 at most", x.hards(0), 14);
        Checks.due("heard", x.heard(0, 60, true), 3);
        Checks.due("nothing fits", x.hards(0), 0);
        Checks.due("no such", x.hards(2), -1);
        Checks.due("no such", x.hards(-1), -1);
        for (int i = 4; i <= 10; i++) {
            Checks.due("heard", x.heard(1, 1, true), i);
        }
        Checks.due("there are ten", x.heard(1, 1, true), -1);
        Checks.due("ten", x.count(13), 10);
        Checks.tell(x, 1, "y:60-p+d+g+s+t");
        x.law(0);
        Checks.due("by the law that holds", x.hards(0), 0);
        NamedCallers y = Checks.house("l;v");
        Checks.tell(y, 1, "y:60-p*9-d-g-s-t");
        y.law(0);
        y.heard(0, 33, true);
        Checks.due("by the law that holds", y.hards(0), 15);
        y.title(0);
        y.sing();
        y.announce(0);
        y.day();
        Checks.due("neither titles, song nor days matter", y.hards(0), 15);
        Checks.due("undone", y.undo(), 3);
        Checks.due("heard is no act", y.count(13), 1);
    }

    private static void asked() {
        NamedCallers x = Checks.house("l;vn1;vn3;vn4");
        // takes 1 3 5 7 9 11; 3 5 7 9 11 13; 4 6 8 10 12 14
        Checks.due("ask(7)", x.ask(7), 0);
        Checks.due("ask(8)", x.ask(8), 1);
        Checks.due("ask(9)", x.ask(9), 1);
        Checks.due("ask(10)", x.ask(10), 2);
        Checks.due("ask(1)", x.ask(1), 0);
        Checks.due("ask(60)", x.ask(60), 0);
        Checks.due("ask(0)", x.ask(0), -1);
        Checks.due("ask(61)", x.ask(61), -1);
        x.heard(1, 9, true);
        Checks.due("of his hards alone", x.ask(9), 2);
        Checks.due("of his hards alone", x.ask(11), 1);
        x.heard(0, 60, true);
        x.heard(1, 60, true);
        Checks.due("whom nothing fits: not", x.ask(1), 2);
        x.heard(2, 60, true);
        Checks.due("nothing fits of any", x.ask(1), -1);
    }

    private static void toldApart() {
        NamedCallers x = Checks.house("l;va12;va15;va22;va12;va5");
        Checks.due("by the second", x.apart(1 + 2), 2);
        Checks.due("by the first", x.apart(1 + 4), 1);
        Checks.due("by the first", x.apart(2 + 4 + 16), 1);
        Checks.due("by the second", x.apart(1 + 2 + 4 + 16), 2);
        Checks.due("by neither", x.apart(1 + 8), -1);
        Checks.due("by neither", x.apart(31), -1);
        Checks.due("one alone", x.apart(4), -1);
        Checks.due("none", x.apart(0), -1);
        Checks.due("no such", x.apart(32 + 1), -1);
        Checks.due("no such", x.apart(64 + 1 + 4), -1);
        Checks.due("no such", x.apart(-1), -1);
        Checks.due("no such", x.apart(Integer.MIN_VALUE + 5), -1);
        Checks.due("no house", new NamedCallers().apart(3), -1);
    }
}
