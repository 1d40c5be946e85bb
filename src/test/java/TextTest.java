/** Promises 1 to 5: a new object, the tape, faults, texts told. */
public final class TextTest {
    public static void main(String[] args) {
        newObject();
        feeding();
        houseFaults();
        lawFaults();
        afternoonFaults();
        telling();
        Checks.finish();
    }

    private static void newObject() {
        NamedCallers x = new NamedCallers();
        int[] want = {0, 0, 0, 0, 0, -1, 0, 0, 0, 0, 0, 0, 1, 0, 0, 0};
        for (int i = 0; i < want.length; i++) {
            Checks.due("count(" + i + ") of a new object", x.count(i), want[i]);
        }
        Checks.due("back() of a new object", x.back(), -1);
        Checks.due("law(0) of a new object", x.law(0), false);
        Checks.due("law(NONE) of a new object", x.law(-1), true);
    }

    private static void feeding() {
        NamedCallers x = new NamedCallers();
        Checks.due("feed of nothing", x.feed(0, 0, 0, 0, 0), 0);
        Checks.due("feed without zeros", x.feed(0x6C003B00, 0x00000076, 0, 0x00200000, 0), 4);
        Checks.due("fault(0)", x.fault(0), -1);
        Checks.due("end(-1)", x.end(-1), false);
        Checks.due("end(5)", x.end(5), false);
        Checks.due("end(4)", x.end(4), true);
        Checks.due("end(2)", x.end(2), true);
        Checks.due("count(4)", x.count(4), 2);
        Checks.due("fault(0) of a tape cut", x.fault(0), 2);
        x.end(0);
        int full = 0x20202020;
        for (int i = 1; i <= 11; i++) {
            Checks.due("feed " + i, x.feed(full, full, full, full, full), 20 * i);
        }
        Checks.due("feed one", x.feed(0, 0, 0, 0, 'l'), 221);
        Checks.due("feed beyond", x.feed(full, full, full, full, full), -1);
        Checks.due("feed beyond changes nothing", x.count(4), 221);
        Checks.due("feed to the brim", x.feed(full, full, full, full, 0x20202000), 240);
        Checks.due("feed one beyond", x.feed(0, 0, 0, 0, 1), -1);
        Checks.due("feed nothing at the brim", x.feed(0, 0, 0, 0, 0), 240);
        Checks.due("fault(0) at the brim", x.fault(0), 240);
        NamedCallers y = new NamedCallers();
        Checks.due("feed signs above 127", y.feed(0xFFFEFDFC, 0x80808080, 0, 0, 0), 8);
        Checks.due("fault of such", y.fault(0), 0);
        Checks.due("fault of such", y.fault(1), 0);
        Checks.due("fault of such", y.fault(2), 0);
    }

    private static void houseFaults() {
        String[] good = {"l;v", "v;l", "s;v;l", "lw0p0;vn1p0t0b1w0l0a0", "st99h9c99;lw9p9;l;l;l;vn9p5t3b30w9l3a99;v;v;v;v;v",
            "st01h00c00;l;v", "   s  t 1 h 0 ; l;v   ", "vl3;l;l;l;l", "l;va09", "l;vn03p05t03b30w09l00a00", "st1;lp9w0;v"};
        for (String text : good) {
            Checks.fault(0, text, -1);
        }
        Checks.fault(0, "", 0);
        Checks.fault(0, "   ", 3);
        Checks.fault(0, "l;v;", 4);
        Checks.fault(0, "l;v; ", 5);
        Checks.fault(0, "l;v l", 5);
        Checks.fault(0, "l;v s", 4);
        Checks.fault(0, "l,v", 1);
        Checks.fault(0, ";l;v", 0);
        Checks.fault(0, "l;;v", 2);
        Checks.fault(0, "L;v", 0);
        Checks.fault(0, "s;l", 3);
        Checks.fault(0, "s;v ", 4);
        Checks.fault(0, "l;vl1", 5);
        Checks.fault(0, "vl1;l ", 6);
        Checks.fault(0, "vl2;l;l", 7);
        Checks.fault(0, "l;v;s;s", 6);
        Checks.fault(0, "l;l;l;l;v;l", 10);
        Checks.fault(0, "l;v;v;v;v;v;v;v", 14);
        // all that can be told, and one clause too many
        Checks.fault(0, "s;l;l;l;l;v;v;v;v;v;v", -1);
        Checks.fault(0, "s;l;l;l;l;v;v;v;v;v;v;", 22);
        Checks.fault(0, "s;l;l;l;l;v;v;v;v;v;v;l", 22);
        Checks.fault(0, "s;l;l;l;l;v;v;v;v;v;v;x", 22);
        Checks.fault(0, "s;l;l;l;l;v;v;v;v;v;v,", 21);
        // bytes that are no signs of a text
        Checks.fault(0, "l;v" + (char) 1, 3);
        Checks.fault(0, "l;v" + (char) 9, 3);
        Checks.fault(0, "l;v" + (char) 160, 3);
        // out of bounds: at the last digit
        Checks.fault(0, "st0;l;v", 2);
        Checks.fault(0, "st00;l;v", 3);
        Checks.fault(0, "sh10;l;v", 3);
        Checks.fault(0, "lw10;v", 3);
        Checks.fault(0, "lp10;v", 3);
        Checks.fault(0, "l;vn0", 4);
        Checks.fault(0, "l;vn10", 5);
        Checks.fault(0, "l;vp6", 4);
        Checks.fault(0, "l;vt4", 4);
        Checks.fault(0, "l;vb0", 4);
        Checks.fault(0, "l;vb31", 5);
        Checks.fault(0, "l;vw10", 5);
        Checks.fault(0, "l;vl4", 4);
        Checks.fault(0, "l;vn 0 ", 5);
        // a third digit, whatever stands ahead of it
        Checks.fault(0, "st100", 4);
        Checks.fault(0, "st000", 4);
        Checks.fault(0, "l;vn990", 6);
        Checks.fault(0, "l;vn0012", 6);
        Checks.fault(0, "l;va100", 6);
        // numbers that are not there, blanks within
        Checks.fault(0, "st", 2);
        Checks.fault(0, "st;l;v", 2);
        Checks.fault(0, "l;vn", 4);
        Checks.fault(0, "l;vn 1 2", 7);
        Checks.fault(0, "l;vnp", 4);
        // letters
        Checks.fault(0, "stt", 2);
        Checks.fault(0, "st1t1", 3);
        Checks.fault(0, "lw1w1", 3);
        Checks.fault(0, "vn1a1n1", 5);
        Checks.fault(0, "vn1p1t1b1w1l0a1a1", 15);
        Checks.fault(0, "sw1", 1);
        Checks.fault(0, "lt1", 1);
        Checks.fault(0, "vh1", 1);
        Checks.fault(0, "l1", 1);
        NamedCallers x = new NamedCallers();
        Checks.tape(x, "l;v");
        Checks.due("fault(3)", x.fault(3), -2);
        Checks.due("fault(-1)", x.fault(-1), -2);
    }

    private static void lawFaults() {
        String[] good = {"y:1", "y:n;y:p", " y : n + p * t / g - s * d ", "y:n=1?2", "y:n<1|p>2&t=3?4;y:5", "y:!n=1?1",
            "y:(n=1)?1", "y:!(n=1|!p=2)?[1+2]*3", "y:[n]=1?2", "y:[n]", "y:[[[[[[n]]]]]]", "y:!!!!!!n=1?1", "y:((((((n=1))))))?1",
            "y:!(!(!(1=1)))?1", "y:9999", "y:0000", "y:n=1&(p=1)&!t=1|g=1?1", "y:!!!!!n=[1]?1", "y:n+1=p-1?1"};
        for (String text : good) {
            Checks.fault(1, text, -1);
        }
        Checks.fault(1, "", 0);
        Checks.fault(1, " ", 1);
        Checks.fault(1, "n", 0);
        Checks.fault(1, "y", 1);
        Checks.fault(1, "y1", 1);
        Checks.fault(1, "y:", 2);
        Checks.fault(1, "y:;", 2);
        Checks.fault(1, "y:1;", 4);
        Checks.fault(1, "y:1;n", 4);
        Checks.fault(1, "y:1 y:1", 4);
        Checks.fault(1, "y:x", 2);
        Checks.fault(1, "y:-1", 2);
        Checks.fault(1, "y:12345", 6);
        Checks.fault(1, "y:00000", 6);
        Checks.fault(1, "y:1 2", 4);
        Checks.fault(1, "y:1+", 4);
        Checks.fault(1, "y:1+*2", 4);
        Checks.fault(1, "y:n2", 3);
        Checks.fault(1, "y:1?2", 3);
        Checks.fault(1, "y:1&2", 3);
        Checks.fault(1, "y:1=2", 5);
        Checks.fault(1, "y:1=2;", 5);
        Checks.fault(1, "y:1=2=3?1", 5);
        Checks.fault(1, "y:1=2?", 6);
        Checks.fault(1, "y:1=2?3=4", 7);
        Checks.fault(1, "y:1=2?!3", 6);
        Checks.fault(1, "y:1=2?(3)", 6);
        Checks.fault(1, "y:1=2?3?4", 7);
        Checks.fault(1, "y:1=!2", 4);
        Checks.fault(1, "y:1=(2)", 4);
        Checks.fault(1, "y:1+!n", 4);
        Checks.fault(1, "y:!n?1", 4);
        Checks.fault(1, "y:!n", 4);
        Checks.fault(1, "y:!n+1;", 6);
        Checks.fault(1, "y:(n=1", 6);
        Checks.fault(1, "y:(n=1)", 7);
        Checks.fault(1, "y:(n=1)+1", 7);
        Checks.fault(1, "y:(n=1)=1", 7);
        Checks.fault(1, "y:(n)?1", 4);
        Checks.fault(1, "y:(n=1]?1", 6);
        Checks.fault(1, "y:[n=1]", 4);
        Checks.fault(1, "y:[n)", 4);
        Checks.fault(1, "y:[]", 3);
        Checks.fault(1, "y:[!n]", 3);
        Checks.fault(1, "y:n=1|?1", 6);
        Checks.fault(1, "y:n=1&?1", 6);
        Checks.fault(1, "y:n==1?1", 4);
        Checks.fault(1, "y:n]", 3);
        Checks.fault(1, "y:n)", 3);
        // the seventh of ( [ ! within one another
        Checks.fault(1, "y:[[[[[[[n", 8);
        Checks.fault(1, "y:!!!!!!!n=1?1", 8);
        Checks.fault(1, "y:(((((((n=1", 8);
        Checks.fault(1, "y:!(!(!(n=[1]))))?1", 10);
        Checks.fault(1, "y:!!!!!![1]=1?1", 8);
        Checks.fault(1, "y:!!!!!!n=[1]?1", 10);
        // beside one another they may be as many as one likes
        Checks.fault(1, "y:!!!n=1&!!!!n=1&!!!!!!n=1?[[[1]]]+[[[[[[1]]]]]]", -1);
        Checks.fault(1, "y:(n=1)&(!(n=[1]))&!(((n=1)))?1", -1);
        StringBuilder full = new StringBuilder("y:1");
        while (full.length() < 240) {
            full.append(";y:1".substring(0, Math.min(4, 240 - full.length())));
        }
        Checks.fault(1, full.toString(), 240);
        full.setLength(239);
        Checks.fault(1, full.toString(), -1);
    }

    private static void afternoonFaults() {
        String[] good = {"g", "d", "c0", "t9", "h0", "c9;t9;g;h9;d", " c 1 ; t 2 ; g ; h 3 ; d ", "d;d;d;d;d;d;d;d;d;d;d;d;d;d;d;d ",
            "c9", "g;g"};
        for (String text : good) {
            Checks.fault(2, text, -1);
        }
        Checks.fault(2, "", 0);
        Checks.fault(2, "  ", 2);
        Checks.fault(2, "x", 0);
        Checks.fault(2, "c", 1);
        Checks.fault(2, "cc", 1);
        Checks.fault(2, "c12", 2);
        Checks.fault(2, "c1 2", 3);
        Checks.fault(2, "t", 1);
        Checks.fault(2, "t;", 1);
        Checks.fault(2, "h", 1);
        Checks.fault(2, "h10", 2);
        Checks.fault(2, "g1", 1);
        Checks.fault(2, "d1", 1);
        Checks.fault(2, "g;", 2);
        Checks.fault(2, "g;;", 2);
        Checks.fault(2, "g d", 2);
        Checks.fault(2, "d;d;d;d;d;d;d;d;d;d;d;d;d;d;d;d;", 31);
        Checks.fault(2, "d;d;d;d;d;d;d;d;d;d;d;d;d;d;d;c0 ; d", 33);
        Checks.fault(2, "d;d;d;d;d;d;d;d;d;d;d;d;d;d;d;d d", 32);
        Checks.fault(2, "d;d;d;d;d;d;d;d;d;d;d;d;d;d;d;c", 31);
    }

    private static void telling() {
        NamedCallers x = new NamedCallers();
        Checks.due("text of a faulty house", Checks.tell(x, 0, "l"), -1);
        Checks.due("the tape stays", x.count(4), 1);
        Checks.due("text of no such sort", Checks.tell(x, 3, "l;v"), -1);
        Checks.due("text of no such sort", x.text(-1), -1);
        Checks.due("text of a house", x.text(0), 1);
        Checks.due("the tape is empty", x.count(4), 0);
        for (int i = 0; i < 4; i++) {
            Checks.due("law " + i, Checks.tell(x, 1, "y:" + (10 + i)), i);
            Checks.due("afternoon " + i, Checks.tell(x, 2, "h" + (i + 1)), i);
        }
        Checks.due("a fifth law", Checks.tell(x, 1, "y:1"), -1);
        Checks.due("the tape stays", x.count(4), 3);
        Checks.due("fault of a fifth law", x.fault(1), -1);
        Checks.due("a fifth afternoon", Checks.tell(x, 2, "g"), -1);
        Checks.due("laws", x.count(2), 4);
        Checks.due("afternoons", x.count(3), 4);
        for (int i = 0; i < 4; i++) {
            x.law(i);
            Checks.due("name by law " + i, x.name(0, 0), 10 + i);
            Checks.due("hold of afternoon " + i, x.step(i, 0, 1), i + 1);
        }
        x.whim(7);
        x.announce(0);
        x.title(0);
        x.sing();
        x.heard(0, 3, true);
        x.day();
        x.announce(0);
        x.image();
        Checks.due("a second house, faulty", Checks.tell(x, 0, "l;v;"), -1);
        Checks.due("the first stays", x.count(6), 1);
        Checks.due("a second house", Checks.tell(x, 0, "sc7;l;l;vt2;vl1"), 2);
        int[] want = {2, 2, 4, 4, 0, 3, 0, 0, 0, 0, 0, 0, 7, 0, 0, 0};
        for (int i = 0; i < want.length; i++) {
            Checks.due("count(" + i + ") in a second house", x.count(i), want[i]);
        }
        Checks.due("coins", x.rule(2), 7);
        Checks.due("titles", x.caller(0, 2), 2);
        Checks.due("titles", x.caller(1, 2), 0);
        Checks.due("announced", x.caller(0, 7), 0);
        Checks.due("room", x.lodger(0, 2), 3);
        Checks.due("log", x.log(0, 0), -1);
        Checks.due("undo", x.undo(), -1);
        Checks.due("back to an image of another house", x.back(), -1);
        Checks.due("hards", x.hards(0), 63);
    }
}
