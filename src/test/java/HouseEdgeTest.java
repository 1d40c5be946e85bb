/** Edges of the tape and of houses: Terms 1, promises 1 to 8. Each sentence has a test of its own. */
public final class HouseEdgeTest {
    private static final int NONE = NamedCallers.NONE;

    public static void main(String[] args) {
        tapeOf240();
        tapeCut();
        noHouseAtFirst();
        oneRules();
        oneToFourLodgers();
        oneToSixCallers();
        anyOrder();
        lettersOnce();
        oneOrTwoDigits();
        items();
        twoSounds();
        blanks();
        otherSigns();
        endsTooEarly();
        withoutLodgerOrCaller();
        lodgerNotTold();
        outOfBounds();
        thirdDigit();
        letterThatWasThere();
        clauseTooMany();
        noSuchSort();
        faultTellsNothing();
        tapeEmptyThen();
        houseInsteadOfAnother();
        Checks.finish();
    }

    private static void tapeOf240() {
        Edges.promise(2, "NONE: more than 240.");
        int full = 0x20202020;
        NamedCallers x = new NamedCallers();
        for (int i = 1; i <= 12; i++) {
            Checks.due("feed of 20 bytes", x.feed(full, full, full, full, full), 20 * i);
        }
        Checks.due("one byte more than 240", x.feed(0, 0, 0, 0, 1), NONE);
        Checks.due("bytes", x.count(4), 240);
        Checks.due("no byte more", x.feed(0, 0, 0, 0, 0), 240);
        Checks.due("end(239)", x.end(239), true);
        Checks.due("two bytes, one too many", x.feed(0x20000000, 0, 0, 0, 0x20), NONE);
        Checks.due("bytes", x.count(4), 239);
        Checks.due("the 240th", x.feed(0, 0, 0x00200000, 0, 0), 240);
        for (int word = 0; word < 5; word++) {
            int[] words = new int[5];
            words[word] = 0x20;
            Checks.due("the 241st, by number " + word, x.feed(words[0], words[1], words[2], words[3], words[4]), NONE);
        }
        Checks.due("bytes", x.count(4), 240);
        Edges.promise(2, "of each number the highest first; bytes of 0 are left out");
        NamedCallers y = new NamedCallers();
        Checks.due("feed of l;vn7b12", y.feed(0x6C003B00, 0x0076006E, 0x37000000, 0, 0x00623132), 8);
        Checks.due("text(0)", y.text(0), 1);
        Checks.due("syllables", y.caller(0, 0), 7);
        Checks.due("business", y.caller(0, 3), 12);
        Checks.due("feed of zeros", y.feed(0, 0, 0, 0, 0), 0);
        Checks.due("feed of 255s", y.feed(-1, -1, -1, -1, -1), 20);
        Checks.due("the greatest byte is a byte", y.fault(0), 0);
    }

    private static void tapeCut() {
        Edges.promise(3, "The TAPE has its first n bytes alone. False: n.");
        NamedCallers x = new NamedCallers();
        Checks.due("end(0) of an empty tape", x.end(0), true);
        Checks.due("end(1) of an empty tape", x.end(1), false);
        Checks.tape(x, "l;vn7w");
        Checks.due("end(-1)", x.end(-1), false);
        Checks.due("end(7)", x.end(7), false);
        Checks.due("end(least int)", x.end(Integer.MIN_VALUE), false);
        Checks.due("end(greatest int)", x.end(Integer.MAX_VALUE), false);
        Checks.due("bytes", x.count(4), 6);
        Checks.due("end(6): all of them", x.end(6), true);
        Checks.due("bytes", x.count(4), 6);
        Checks.due("end(5)", x.end(5), true);
        Checks.due("bytes", x.count(4), 5);
        Checks.due("end(6): the sixth is gone", x.end(6), false);
        Checks.due("text(0) of the first five", x.text(0), 1);
        Checks.due("syllables", x.caller(0, 0), 7);
    }

    private static void noHouseAtFirst() {
        Edges.promise(1, "No HOUSE.");
        NamedCallers x = new NamedCallers();
        int[] want = {0, 0, 0, 0, 0, NONE, 0, 0, 0, 0, 0, 0, 1, 0, 0, 0};
        for (int i = 0; i < want.length; i++) {
            Checks.due("count(" + i + ")", x.count(i), want[i]);
        }
        Checks.due("the tape is empty: fault(0)", x.fault(0), 0);
        Checks.due("the tape is empty: fault(1)", x.fault(1), 0);
        Checks.due("the tape is empty: fault(2)", x.fault(2), 0);
    }

    private static void oneRules() {
        Edges.terms(1, "s (its RULES; one at most)");
        Checks.fault(0, "l;v", NONE);
        Checks.fault(0, "s;l;v", NONE);
        Checks.fault(0, "s;s;l;v", 2);
        Checks.fault(0, "l;v;st9;s", 8);
    }

    private static void oneToFourLodgers() {
        Edges.terms(1, "l (a LODGER; 1 .. 4)");
        Checks.fault(0, "v", 1);
        for (int n = 1; n <= 4; n++) {
            NamedCallers x = Checks.house("v;" + Edges.row(n, "l"));
            Checks.due("lodgers", x.count(1), n);
        }
        Checks.fault(0, "v;l;l;l;l;l", 10);
    }

    private static void oneToSixCallers() {
        Edges.terms(1, "v (a CALLER; 1 .. 6)");
        Checks.fault(0, "l", 1);
        for (int n = 1; n <= 6; n++) {
            NamedCallers x = new NamedCallers();
            Checks.due("text(0)", Checks.tell(x, 0, "l;" + Edges.row(n, "v")), n);
            Checks.due("callers", x.count(0), n);
        }
        Checks.fault(0, "l;v;v;v;v;v;v;v", 14);
    }

    private static void anyOrder() {
        Edges.terms(1, "in any order");
        String[] orders = {"s;l;v", "s;v;l", "l;s;v", "l;v;s", "v;s;l", "v;l;s", "v;l;v;s;l;v", "vl3;v;l;l;s;v;l;v;l;v;v"};
        for (String order : orders) {
            Checks.fault(0, order, NONE);
        }
        NamedCallers x = Checks.house("vn7l1;lw5;vn8;lw6");
        Checks.due("the first caller", x.caller(0, 0), 7);
        Checks.due("the second caller", x.caller(1, 0), 8);
        Checks.due("the first lodger", x.lodger(0, 0), 5);
        Checks.due("the second lodger", x.lodger(1, 0), 6);
    }

    private static void lettersOnce() {
        Edges.terms(1, "then ITEMS, none or more: a letter, each once at most in a CLAUSE");
        Checks.fault(0, "s;l;v", NONE);
        Checks.fault(0, "st1h1c1;lw1p1;vn1p1t1b1w1l0a1", NONE);
        Checks.fault(0, "sc1h1t1;lp1w1;va1l0w1b1t1p1n1", NONE);
        // in another clause it may stand again
        Checks.fault(0, "st1;lw1;lw2;vn1w1;vn2w2t1", NONE);
        twice("s", "thc");
        twice("l", "wp");
        twice("v", "nptbwla");
        // a letter of another clause
        foreign("s", "thc");
        foreign("l", "wp");
        foreign("v", "nptbwla");
    }

    private static void twice(String clause, String letters) {
        for (int i = 0; i < letters.length(); i++) {
            char letter = letters.charAt(i);
            Checks.fault(0, clause + letter + "1" + letter + "1", 3);
            Checks.fault(0, clause + letter + "1 " + letter, 4);
        }
    }

    private static void foreign(String clause, String letters) {
        for (char letter = 1; letter < 256; letter++) {
            // at the clause's end: what is left without a lodger or a caller ends too early
            int behind = letters.indexOf(letter) >= 0 || letter == ';' || letter == ' ' ? 2 : 1;
            Checks.fault(0, clause + letter, behind);
        }
    }

    private static void oneOrTwoDigits() {
        Edges.terms(1, "and a number (one or two digits)");
        Checks.fault(0, "l;vn", 4);
        Checks.fault(0, "l;vn;", 4);
        Checks.fault(0, "l;vnp1", 4);
        Checks.fault(0, "l;vn9", NONE);
        Checks.fault(0, "l;vn09", NONE);
        Checks.fault(0, "l;vn009", 6);
        // the signs beside the digits are none
        Checks.fault(0, "l;vn/", 4);
        Checks.fault(0, "l;vn:", 4);
        Checks.fault(0, "l;vn1/", 5);
        Checks.fault(0, "l;vn1:", 5);
    }

    private static void items() {
        Edges.terms(1, "t BEATS of an afternoon (1 .. 99; 60 without)");
        item("s", 't', 1, 99, 60, x -> x.rule(0));
        Edges.terms(1, "h how many more BEATS a HARD sound takes (0 .. 9; 2)");
        item("s", 'h', 0, 9, 2, x -> x.rule(1));
        Edges.terms(1, "c COINS (0 .. 99; 20)");
        item("s", 'c', 0, 99, 20, x -> x.rule(2));
        Edges.terms(1, "w how much he WANTS a call (0 .. 9; 2)");
        item("l", 'w', 0, 9, 2, x -> x.lodger(0, 0));
        Edges.terms(1, "p PATIENCE: how many calls a day he receives (0 .. 9; 3)");
        item("l", 'p', 0, 9, 3, x -> x.lodger(0, 1));
        Edges.terms(1, "n SYLLABLES (1 .. 9; 3)");
        item("v", 'n', 1, 9, 3, x -> x.caller(0, 0));
        Edges.terms(1, "p HARD sounds (0 .. 5; 1)");
        item("v", 'p', 0, 5, 1, x -> x.caller(0, 1));
        Edges.terms(1, "t TITLES (0 .. 3; 0)");
        item("v", 't', 0, 3, 0, x -> x.caller(0, 2));
        Edges.terms(1, "b how many BEATS his BUSINESS takes (1 .. 30; 5)");
        item("v", 'b', 1, 30, 5, x -> x.caller(0, 3));
        Edges.terms(1, "w its WORTH (0 .. 9; 3)");
        item("v", 'w', 0, 9, 3, x -> x.caller(0, 4));
        Edges.terms(1, "l whose CALLER (0 .. 3; 0)");
        item("v", 'l', 0, 3, 0, x -> x.caller(0, 5));
        Edges.terms(1, "a his first two SOUNDS (0 .. 99");
        item("v", 'a', 0, 99, 0, x -> x.caller(0, 6));
    }

    /** Every number of one and of two digits, told with all that the house needs behind it. */
    private static void item(String clause, char letter, int least, int most, int without, Edges.Answer told) {
        String rest = clause.equals("s") ? ";l;v" : clause.equals("l") ? ";v" : ";l;l;l;l";
        NamedCallers plain = Checks.house(clause + rest);
        Checks.due("without " + letter, told.of(plain), without);
        for (int value = 0; value <= 99; value++) {
            boolean good = value >= least && value <= most;
            String twoDigits = clause + letter + value / 10 + value % 10 + rest;
            Checks.fault(0, twoDigits, good ? NONE : 3);
            if (value < 10) {
                Checks.fault(0, clause + letter + value + rest, good ? NONE : 2);
            }
            if (good) {
                Checks.due("told by " + twoDigits, told.of(Checks.house(twoDigits)), value);
            }
        }
        Checks.fault(0, clause + letter + "100" + rest, 4);
    }

    private static void twoSounds() {
        Edges.terms(1, "(0 .. 99: tens the first, ones the second; 0)");
        NamedCallers x = Checks.house("l;va7;va07;va17;va70;v;va99");
        Checks.due("7 and 07 are alike", x.apart(1 + 2), NONE);
        Checks.due("07 and 17: by the first", x.apart(2 + 4), 1);
        Checks.due("0 and 07: by both", x.apart(1 + 16), 2);
        Checks.due("70 and 07: by the first", x.apart(8 + 2), 1);
        Checks.due("99 and 0", x.apart(16 + 32), 1);
    }

    private static void blanks() {
        Edges.terms(1, "Blanks (32) may stand between all signs of these, not within numbers.");
        String blank = "   ";
        Checks.fault(0, "  s t 9 h 9 c 9 ; l w 9 p 9 ; v n 9 p 5 t 3 b 30 w 9 l 0 a 99  ", NONE);
        Checks.fault(0, blank + "l" + blank + ";" + blank + "v" + blank, NONE);
        Checks.fault(1, "  y : n = 1 | ! ( p < 2 & t > 3 ) ? [ 4000 + g ] * s / d - 1 ; y : 2  ", NONE);
        Checks.fault(2, "  c 0 ; t 1 ; g ; h 9 ; d  ", NONE);
        Checks.fault(0, "st1 0;l;v", 4);
        Checks.fault(0, "l;va9 9", 6);
        Checks.fault(1, "y:1 0", 4);
        Checks.fault(2, "h1 0", 3);
        // a tape that is full of them
        Checks.fault(0, Edges.times(236, " ") + "v; l", NONE);
        Checks.fault(0, Edges.times(240, " "), 240);
        Checks.fault(1, Edges.times(240, " "), 240);
        Checks.fault(2, Edges.times(240, " "), 240);
    }

    private static void otherSigns() {
        Edges.terms(1, "FAULT: the first byte at which no such TEXT can go on");
        for (char sign = 1; sign < 256; sign++) {
            Checks.fault(0, sign + ";", "slv".indexOf(sign) >= 0 ? 2 : sign == ' ' ? 1 : 0);
            boolean opens = "slv; ".indexOf(sign) >= 0;
            Checks.fault(0, "l;v;" + sign, opens && sign != ';' ? sign == ' ' ? 5 : NONE : 4);
            Checks.fault(2, "c1" + sign, sign == ' ' ? NONE : sign == ';' ? 3 : 2);
            Checks.fault(2, "" + sign, "ctgh d".indexOf(sign) < 0 ? 0 : sign == 'g' || sign == 'd' ? NONE : 1);
            Checks.fault(1, "y" + sign, sign == ':' || sign == ' ' ? 2 : 1);
            Checks.fault(1, "" + sign, sign == 'y' || sign == ' ' ? 1 : 0);
        }
    }

    private static void endsTooEarly() {
        Edges.terms(1, "(the length, if it ends too early");
        Checks.fault(0, "", 0);
        Checks.fault(0, " ", 1);
        Checks.fault(0, "l;v;", 4);
        Checks.fault(0, "l;v;  ", 6);
        Checks.fault(0, "l;vb", 4);
        Checks.fault(0, "l;vb ", 5);
        Checks.fault(1, "", 0);
        Checks.fault(1, "y:1+", 4);
        Checks.fault(1, "y:1+ ", 5);
        Checks.fault(2, "", 0);
        Checks.fault(2, "c", 1);
        Checks.fault(2, "c ", 2);
        Checks.fault(2, "g;", 2);
    }

    private static void withoutLodgerOrCaller() {
        Edges.terms(1, "without a LODGER or a CALLER");
        Checks.fault(0, "s", 1);
        Checks.fault(0, "st9 ", 4);
        Checks.fault(0, "s;l", 3);
        Checks.fault(0, "s;v", 3);
        Checks.fault(0, "l;l;l;l", 7);
        Checks.fault(0, "v;v;v;v;v;v ", 12);
    }

    private static void lodgerNotTold() {
        Edges.terms(1, "with a CALLER of a LODGER that is not told)");
        for (int lodgers = 1; lodgers <= 4; lodgers++) {
            for (int whose = 0; whose <= 3; whose++) {
                String callerLast = Edges.row(lodgers, "l") + ";vl" + whose;
                String callerFirst = "vl" + whose + ";v;" + Edges.row(lodgers, "l") + " ";
                boolean told = whose < lodgers;
                Checks.fault(0, callerLast, told ? NONE : callerLast.length());
                Checks.fault(0, callerFirst, told ? NONE : callerFirst.length());
            }
        }
        Checks.fault(0, "l;v;v;v;v;v;vl1", 15);
    }

    private static void outOfBounds() {
        Edges.terms(1, "a number out of bounds is wrong at its last digit");
        Checks.fault(0, "st0", 2);
        Checks.fault(0, "st0;l;v", 2);
        Checks.fault(0, "st00;l;v", 3);
        Checks.fault(0, "st 0 ;l;v", 3);
        Checks.fault(0, "l;vn0", 4);
        Checks.fault(0, "l;vb31", 5);
        Checks.fault(0, "l;vb 99 ", 6);
        Checks.fault(0, "l;vt4x", 4);
        // 3 is within bounds, 30 is not: only the last digit is wrong
        Checks.fault(0, "l;vt30", 5);
    }

    private static void thirdDigit() {
        Edges.terms(1, "a third digit (whatever stands ahead of it; a fifth one in a LAW) itself");
        Checks.fault(0, "st001;l;v", 4);
        Checks.fault(0, "st100;l;v", 4);
        Checks.fault(0, "st000", 4);
        Checks.fault(0, "l;vb310", 6);
        Checks.fault(0, "l;vn009", 6);
        Checks.fault(0, "l;vl999999", 6);
        Checks.fault(1, "y:9999", NONE);
        Checks.fault(1, "y:0000", NONE);
        Checks.fault(1, "y:10000", 6);
        Checks.fault(1, "y:00001", 6);
        Checks.fault(1, "y:n=99999?1", 8);
        Checks.fault(1, "y:[00000000]", 7);
    }

    private static void letterThatWasThere() {
        Edges.terms(1, "a letter that was there");
        Checks.fault(0, "st1h1c1t1", 7);
        Checks.fault(0, "lw1p1w", 5);
        Checks.fault(0, "vn1p1t1b1w1l0a1n1", 15);
        Checks.fault(0, "l;vt0t", 5);
        // even if what is behind it would be wrong, too
        Checks.fault(0, "lw9w99", 3);
    }

    private static void clauseTooMany() {
        Edges.terms(1, "a second s, a fifth l, a seventh v");
        Checks.fault(0, "s;s", 2);
        Checks.fault(0, "s;l;v; s", 7);
        Checks.fault(0, "l;l;l;l;l", 8);
        Checks.fault(0, "l;l;l;l;v; l", 11);
        Checks.fault(0, "v;v;v;v;v;v;v", 12);
        Checks.fault(0, "l;v;v;v;v;v;v; v", 15);
        // in a house that has all it can have
        String full = "s;l;l;l;l;v;v;v;v;v;v";
        Checks.fault(0, full, NONE);
        Checks.fault(0, full + ";s", 22);
        Checks.fault(0, full + ";l", 22);
        Checks.fault(0, full + ";v", 22);
    }

    private static void noSuchSort() {
        Edges.promise(4, "a HOUSE (0), a LAW (1), an AFTERNOON (2). NONE: none. -2: no such sort.");
        int[] sorts = {-1, 3, Integer.MIN_VALUE, Integer.MAX_VALUE};
        String[] texts = {"l;v", "y:1", "g", ""};
        for (String text : texts) {
            NamedCallers x = new NamedCallers();
            Checks.tape(x, text);
            for (int sort : sorts) {
                Checks.due("fault(" + sort + ")", x.fault(sort), -2);
            }
            for (int sort = 0; sort < 3; sort++) {
                Checks.due("fault(" + sort + ") of '" + text + "'", x.fault(sort), texts[sort].equals(text) ? NONE : 0);
            }
            Checks.due("bytes", x.count(4), text.length());
        }
    }

    private static void faultTellsNothing() {
        Edges.promise(4, "The FAULT of the TAPE");
        // what was looked at, whole or faulty, leaves nothing in what is told behind it
        String[][] looked = {{"st9h9c9;lw9p9;lw9p9;vn9p5t3b30w9l1a99;v;v", "sh7;l;vn9;x"}, {"y:1=1?21;y:22", "y:23+"}, {"h1;h2;h3", "h4;h5;x"}};
        NamedCallers x = new NamedCallers();
        for (int sort = 0; sort < 3; sort++) {
            Checks.tape(x, looked[sort][0]);
            Checks.due("fault", x.fault(sort), NONE);
            Checks.tape(x, looked[sort][1]);
            Checks.due("fault", x.fault(sort), looked[sort][1].length() - (sort == 1 ? 0 : 1));
            Checks.due("nothing is told by it", x.count(sort == 0 ? 0 : sort + 1), 0);
        }
        Checks.due("a house", Checks.tell(x, 0, "l;vn4"), 1);
        Checks.due("a law", Checks.tell(x, 1, "y:30"), 0);
        Checks.due("an afternoon", Checks.tell(x, 2, "h6"), 0);
        Checks.due("beats", x.rule(0), 60);
        Checks.due("of a hard sound", x.rule(1), 2);
        Checks.due("coins", x.rule(2), 20);
        Checks.due("lodgers", x.count(1), 1);
        Checks.due("wants", x.lodger(0, 0), 2);
        Checks.due("patience", x.lodger(0, 1), 3);
        int[] caller = {4, 1, 0, 5, 3, 0, 0, 0};
        for (int what = 0; what < caller.length; what++) {
            Checks.due("caller(0, " + what + ")", x.caller(0, what), caller[what]);
        }
        x.law(0);
        Checks.due("name by the law", x.name(0, 0), 30);
        Checks.due("its step", x.step(0, 0, 1), 6);
        Checks.due("no other step", x.step(0, 1, 1), NamedCallers.HIDDEN);
        // nor in what was told ahead of it
        for (int sort = 0; sort < 3; sort++) {
            Checks.tape(x, looked[sort][0]);
            x.fault(sort);
        }
        Checks.due("callers", x.count(0), 1);
        Checks.due("syllables", x.caller(0, 0), 4);
        Checks.due("name by the law", x.name(0, 0), 30);
        Checks.due("its step", x.step(0, 0, 1), 6);
    }

    private static void tapeEmptyThen() {
        Edges.promise(5, "The TAPE (empty then)");
        NamedCallers x = new NamedCallers();
        Checks.due("a house", Checks.tell(x, 0, "l;v"), 1);
        Checks.due("bytes", x.count(4), 0);
        Checks.due("a law", Checks.tell(x, 1, "y:1"), 0);
        Checks.due("bytes", x.count(4), 0);
        Checks.due("an afternoon", Checks.tell(x, 2, "g"), 0);
        Checks.due("bytes", x.count(4), 0);
        Checks.due("nothing is there to be told again", x.text(0), NONE);
    }

    private static void houseInsteadOfAnother() {
        Edges.promise(5, "all that was of another one, HEARD, too, is gone but LAWS, which holds, AFTERNOONS, WHIM");
        NamedCallers x = Checks.house("st50c9;lw5;v;v;v;v;v;v");
        Checks.tell(x, 1, "y:7");
        Checks.tell(x, 1, "y:8");
        Checks.tell(x, 2, "g;h3");
        x.law(1);
        x.whim(9);
        x.heard(0, 60, true);
        x.title(0);
        x.announce(0);
        x.announce(1);
        x.day();
        x.image();
        x.announce(5);
        x.sing();
        x.hold(9);
        Checks.due("another house", Checks.tell(x, 0, "l;vt1;v"), 2);
        int[] want = {2, 1, 2, 1, 0, 1, 0, 0, 0, 0, 0, 0, 9, 0, 0, 0};
        for (int i = 0; i < want.length; i++) {
            Checks.due("count(" + i + ")", x.count(i), want[i]);
        }
        int[] rules = {60, 2, 20};
        for (int i = 0; i < rules.length; i++) {
            Checks.due("rule(" + i + ")", x.rule(i), rules[i]);
        }
        Checks.due("titles", x.caller(0, 2), 1);
        Checks.due("titles", x.caller(1, 2), 0);
        Checks.due("not announced", x.caller(0, 7) + x.caller(1, 7), 0);
        Checks.due("room", x.lodger(0, 2), 3);
        Checks.due("nothing was heard", x.hards(0), 63);
        Checks.due("no act", x.undo(), NONE);
        Checks.due("no image", x.back(), NONE);
        Checks.due("no log", x.log(0, 0), NONE);
        Checks.due("the law holds", x.name(0, 0), 8);
        Checks.due("the afternoon", x.step(0, 1, 1), 3);
        Checks.due("the third caller is gone", Checks.callerOr(x, 2, 0), NamedCallers.HIDDEN);
    }
}
