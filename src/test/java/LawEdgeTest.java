/** Edges of laws: Terms 1 and 2, promises 4, 5 and 9. Each sentence has a test of its own. */
public final class LawEdgeTest {
    private static final int NONE = NamedCallers.NONE;

    public static void main(String[] args) {
        fourAtMost();
        oneClauseAtLeast();
        perhapsCondition();
        oneToFourDigits();
        sixLetters();
        comparisons();
        conditionBehindNotOrBracket();
        sixWithinOneAnother();
        seventhAtIt();
        millionAtMost();
        millionAtLeast();
        cutTowardsZero();
        byZero();
        firstThatHolds();
        withoutAnyThatHolds();
        heldWithin();
        letters();
        lawThatHolds();
        Checks.finish();
    }

    private static void fourAtMost() {
        Edges.terms(1, "LAWS (4 at most) are TEXTS");
        NamedCallers x = Checks.house("l;v");
        for (int i = 0; i < 4; i++) {
            Checks.due("text(1)", Checks.tell(x, 1, "y:" + (11 + i)), i);
            Checks.due("laws", x.count(2), i + 1);
        }
        Checks.due("a fifth", Checks.tell(x, 1, "y:19"), NONE);
        Checks.due("laws", x.count(2), 4);
        Checks.due("it stays on the tape", x.count(4), 4);
        Checks.due("it has no fault", x.fault(1), NONE);
        for (int i = 0; i < 4; i++) {
            Checks.due("law(" + i + ")", x.law(i), true);
            Checks.due("name by it", x.name(0, 0), 11 + i);
        }
        Checks.due("law(4)", x.law(4), false);
    }

    private static void oneClauseAtLeast() {
        Edges.terms(1, "CLAUSES with ; between, one at least: y, : , perhaps CONDITION ?, then SUM");
        Checks.fault(1, "", 0);
        Checks.fault(1, ";", 0);
        Checks.fault(1, "y:1", NONE);
        Checks.fault(1, "y:1;", 4);
        Checks.fault(1, "y:1;;y:1", 4);
        Checks.fault(1, ";y:1", 0);
        Checks.fault(1, "y", 1);
        Checks.fault(1, "y:", 2);
        Checks.fault(1, "y:;", 2);
        Checks.fault(1, ":1", 0);
        Checks.fault(1, "yy:1", 1);
        Checks.fault(1, "y::1", 2);
        // as many as the tape holds: 60 of them are 239 bytes
        Checks.fault(1, Edges.row(60, "y:1"), NONE);
        Checks.fault(1, Edges.row(60, "y:1") + ";", 240);
        worth(Edges.row(29, "y:0=1?0") + ";y:42", 42);
        // one clause that fills the tape, each sign of it counts
        worth("y:42" + Edges.times(117, "-0") + "+8", 50);
        worth("y:" + Edges.times(58, "0=1|") + "1=1?7", 7);
    }

    private static void perhapsCondition() {
        Edges.terms(1, "CONDITION: TRUTHS with | between; TRUTH: UNITS with & between");
        Checks.fault(1, "y:?1", 2);
        Checks.fault(1, "y:1=1?", 6);
        Checks.fault(1, "y:1=1?;", 6);
        Checks.fault(1, "y:1=1", 5);
        Checks.fault(1, "y:1?1", 3);
        Checks.fault(1, "y:1=1|", 6);
        Checks.fault(1, "y:1=1|?", 6);
        Checks.fault(1, "y:1=1&", 6);
        Checks.fault(1, "y:1=1&|", 6);
        Checks.fault(1, "y:|1=1", 2);
        Checks.fault(1, "y:&1=1", 2);
        Checks.fault(1, "y:1=1?1=1", 7);
        Checks.fault(1, "y:1=1?1?1", 7);
        Checks.fault(1, "y:1=1?!1=1", 6);
        Checks.fault(1, "y:1=1?(1=1)", 6);
        Checks.fault(1, "y:1=1|1=1&1=1|1=1?1", NONE);
        // & binds more than |
        worth("y:1=1|1=1&1=2?20;y:10", 20);
        worth("y:1=2&1=1|1=1?20;y:10", 20);
        worth("y:1=2&(1=1|1=1)?20;y:10", 10);
    }

    private static void oneToFourDigits() {
        Edges.terms(1, "ATOM: a number (1 to 4 digits)");
        Checks.fault(1, "y:0", NONE);
        Checks.fault(1, "y:9", NONE);
        Checks.fault(1, "y:0000", NONE);
        Checks.fault(1, "y:9999", NONE);
        Checks.fault(1, "y:99999", 6);
        Checks.fault(1, "y:00000", 6);
        Checks.fault(1, "y:/", 2);
        Checks.fault(1, "y::", 2);
        worth("y:0042", 42);
        worth("y:9999=9998+1?20;y:10", 20);
        worth("y:0000=0?20;y:10", 20);
    }

    private static void sixLetters() {
        Edges.terms(1, "a letter (n p t g s d), [ SUM ]");
        for (char sign = 1; sign < 256; sign++) {
            boolean atom = sign < 128 && ("nptgsd".indexOf(sign) >= 0 || sign >= '0' && sign <= '9');
            boolean goesOn = "[!( ".indexOf(sign) >= 0;
            Checks.fault(1, "y:" + sign, atom ? NONE : goesOn ? 3 : 2);
            // behind an operation and within [ a condition can't begin
            boolean sumGoesOn = sign == '[' || sign == ' ';
            Checks.fault(1, "y:1+" + sign, atom ? NONE : sumGoesOn ? 5 : 4);
            Checks.fault(1, "y:[" + sign, atom || sumGoesOn ? 4 : 3);
        }
        Checks.fault(1, "y:[]", 3);
        Checks.fault(1, "y:[1", 4);
        Checks.fault(1, "y:[1]", NONE);
        Checks.fault(1, "y:[1]]", 5);
        Checks.fault(1, "y:1]", 3);
        Checks.fault(1, "y:[1)", 4);
    }

    private static void comparisons() {
        Edges.terms(1, "or SUM, one of = < >, SUM");
        worth("y:5=4?20;y:10", 10);
        worth("y:5=5?20;y:10", 20);
        worth("y:5=6?20;y:10", 10);
        worth("y:5<4?20;y:10", 10);
        worth("y:5<5?20;y:10", 10);
        worth("y:5<6?20;y:10", 20);
        worth("y:5>4?20;y:10", 20);
        worth("y:5>5?20;y:10", 10);
        worth("y:5>6?20;y:10", 10);
        worth("y:0-1<0?20;y:10", 20);
        // what holds does not hold behind !, and holds with what else holds
        String[] holds = {"5=5", "5<6", "5>4"};
        String[] holdsNot = {"5=4", "5<5", "5>5"};
        for (int i = 0; i < 3; i++) {
            worth("y:!" + holds[i] + "?20;y:10", 10);
            worth("y:!!" + holds[i] + "?20;y:10", 20);
            worth("y:!" + holdsNot[i] + "?20;y:10", 20);
            worth("y:!!" + holdsNot[i] + "?20;y:10", 10);
            for (int k = 0; k < 3; k++) {
                worth("y:" + holds[i] + "&" + holds[k] + "?20;y:10", 20);
                worth("y:" + holds[i] + "&" + holdsNot[k] + "?20;y:10", 10);
                worth("y:" + holdsNot[i] + "|" + holds[k] + "?20;y:10", 20);
                worth("y:" + holds[i] + "|" + holdsNot[k] + "?20;y:10", 20);
                worth("y:" + holdsNot[i] + "|" + holdsNot[k] + "?20;y:10", 10);
            }
        }
        // one of them, not two
        Checks.fault(1, "y:1=1=1?1", 5);
        Checks.fault(1, "y:1<=1?1", 4);
        Checks.fault(1, "y:1=?1", 4);
        Checks.fault(1, "y:=1?1", 2);
    }

    private static void conditionBehindNotOrBracket() {
        Edges.terms(1, "(A CLAUSE that goes on with ! or ( behind its : has a CONDITION.)");
        Checks.fault(1, "y:!1", 4);
        Checks.fault(1, "y:!1;", 4);
        Checks.fault(1, "y:!1=1", 6);
        Checks.fault(1, "y:!1=1;", 6);
        Checks.fault(1, "y:(1", 4);
        Checks.fault(1, "y:(1)", 4);
        Checks.fault(1, "y:(1)+1", 4);
        Checks.fault(1, "y:(1=1", 6);
        Checks.fault(1, "y:(1=1)", 7);
        Checks.fault(1, "y:(1=1)+1", 7);
        Checks.fault(1, "y:(1=1)=1", 7);
        Checks.fault(1, "y:(1=1))", 7);
        Checks.fault(1, "y:(1=1]", 6);
        Checks.fault(1, "y:()", 3);
        Checks.fault(1, "y:!", 3);
        Checks.fault(1, "y:!?", 3);
        Checks.fault(1, "y: ( 1=1 ) ? 1", NONE);
        Checks.fault(1, "y: ! 1=1 ? 1", NONE);
        // one that goes on with [ may have one or not
        Checks.fault(1, "y:[1]", NONE);
        Checks.fault(1, "y:[1]=1?1", NONE);
    }

    /** Every row of n of ( and !, with [ behind them, and what closes them. */
    private static String nested(int opened, int bits, int squares) {
        StringBuilder front = new StringBuilder("y:");
        StringBuilder behind = new StringBuilder();
        for (int i = 0; i < opened; i++) {
            boolean bracket = (bits >> i & 1) == 1;
            front.append(bracket ? '(' : '!');
            behind.append(bracket ? ")" : "");
        }
        front.append(Edges.times(squares, "[")).append('1').append(Edges.times(squares, "]")).append("=1");
        return front.append(behind).append("?20;y:10").toString();
    }

    private static void sixWithinOneAnother() {
        Edges.terms(1, "At most six of ( [ ! within one another.");
        for (int opened = 0; opened <= 6; opened++) {
            for (int bits = 0; bits < 1 << opened; bits++) {
                Checks.fault(1, nested(opened, bits, 6 - opened), NONE);
                int nots = opened - Integer.bitCount(bits);
                worth(nested(opened, bits, 6 - opened), nots % 2 == 0 ? 20 : 10);
            }
        }
        worth("y:[[[[[[42]]]]]]", 42);
        worth("y:1=[[[[[[1]]]]]]?20;y:10", 20);
        worth("y:1=1?[[[[[[42]]]]]]", 42);
        // beside one another there may be more
        worth("y:[[[[[[1]]]]]]+[[[[[[1]]]]]]*[[[[[[9]]]]]]", 10);
        worth("y:!!!!!!1=1&!!!!!!1=1|((((((1=1))))))?20;y:10", 20);
        worth("y:!!!!!1=[1]&!!!!!1=[2]?20;y:10", 10);
        worth("y:(((1=1)&(1=1))|!!!!(1=2))&!!!!!!1=1?20;y:10", 20);
        Checks.fault(1, "y:[1]" + Edges.times(58, "+[1]"), NONE);
    }

    private static void seventhAtIt() {
        Edges.terms(1, "a seventh of ( [ ! in a LAW at it");
        for (int opened = 0; opened <= 7; opened++) {
            for (int bits = 0; bits < 1 << opened; bits++) {
                Checks.fault(1, nested(opened, bits, 7 - opened), 8);
            }
        }
        Checks.fault(1, "y:!!!!!!1=[1]?1", 10);
        Checks.fault(1, "y:((((((1=1&!1=1", 12);
        Checks.fault(1, "y:((((((1=1|(1=1", 12);
        Checks.fault(1, "y:[[[[[[1+[1", 10);
        Checks.fault(1, "y:1=1?[[[[[[[1", 12);
        Checks.fault(1, "y:1;y:[[[[[[[1", 12);
        Checks.fault(1, "y:[ [ [ [ [ [ [", 14);
        Checks.fault(1, "y:" + Edges.times(238, "["), 8);
        Checks.fault(1, "y:" + Edges.times(238, "!"), 8);
        Checks.fault(1, "y:" + Edges.times(238, "("), 8);
    }

    private static void millionAtMost() {
        Edges.terms(1, "Behind each sign numbers are within -1,000,000 .. 1,000,000");
        // 1,000,000 itself can be
        worth("y:1000*1000>1000*1000-1?20;y:10", 20);
        worth("y:999*1001+1=1000*1000?20;y:10", 20);
        // behind +, -, *: no more
        worth("y:1000*1000+1=1000*1000?20;y:10", 20);
        worth("y:1000*1000-[0-1]=1000*1000?20;y:10", 20);
        worth("y:1001*1000=1000*1000?20;y:10", 20);
        worth("y:[0-1001]*[0-1000]=1000*1000?20;y:10", 20);
        worth("y:1000*1000/[0-1]+1000*1000=0?20;y:10", 20);
        // behind each sign, not at the end alone
        worth("y:1000*1000+9999-1000*1000+5", 5);
        worth("y:9999*9999/9999", 60);
        worth("y:9999*9999/9999-60", 40);
        // nothing ever goes round
        worth("y:9999*9999*9999*9999*9999=1000*1000?20;y:10", 20);
        worth("y:9999*9999*9999*9999*9999>0?20;y:10", 20);
        worth("y:[1000*1000]*[1000*1000]-999*1001", 1);
        worth("y:[1000*1000]*[1000*1000]-999*1001+8", 9);
    }

    private static void millionAtLeast() {
        Edges.terms(1, "numbers are within -1,000,000 .. 1,000,000");
        worth("y:0-1000*1000<1-1000*1000?20;y:10", 20);
        worth("y:0-1000*1000-1=0-1000*1000?20;y:10", 20);
        worth("y:0-1000*1000+[0-1]=0-1000*1000?20;y:10", 20);
        worth("y:[0-1001]*1000=0-1000*1000?20;y:10", 20);
        worth("y:[0-9999]*9999*9999*9999=0-1000*1000?20;y:10", 20);
        worth("y:0-1000*1000-9999+1000*1000+5", 5);
        worth("y:[0-9999*9999]/9999+120", 20);
    }

    private static void cutTowardsZero() {
        Edges.terms(1, "/ cuts towards 0");
        worth("y:7/2", 3);
        worth("y:8/9+20", 20);
        worth("y:[0-7]/2+20", 17);
        worth("y:7/[0-2]+20", 17);
        worth("y:[0-7]/[0-2]", 3);
        worth("y:[0-8]/9+20", 20);
        worth("y:9/2*2", 8);
    }

    private static void byZero() {
        Edges.terms(1, "by 0 gives 0");
        worth("y:7/0+20", 20);
        worth("y:0/0+20", 20);
        worth("y:[0-7]/0+20", 20);
        worth("y:20+7/g", 20);
        worth("y:20+1000*1000/[1-1]", 20);
    }

    private static void firstThatHolds() {
        Edges.terms(1, "WORTH of a LAW: the SUM of the first CLAUSE whose CONDITION holds (or has none)");
        worth("y:1=1?20;y:1=1?30;y:40", 20);
        worth("y:1=2?20;y:1=1?30;y:40", 30);
        worth("y:1=2?20;y:1=2?30;y:40", 40);
        worth("y:20;y:1=1?30", 20);
        worth("y:20;y:30", 20);
    }

    private static void withoutAnyThatHolds() {
        Edges.terms(1, "0 without");
        // 0, held within 1 .. 60
        worth("y:1=2?20", 1);
        worth("y:1=2?20;y:!1=1?30", 1);
    }

    private static void heldWithin() {
        Edges.terms(2, "held within 1 .. 60 BEATS");
        worth("y:0-9999", 1);
        worth("y:0-1", 1);
        worth("y:0", 1);
        worth("y:1", 1);
        worth("y:2", 2);
        worth("y:59", 59);
        worth("y:60", 60);
        worth("y:61", 60);
        worth("y:9999*9999", 60);
        worth("y:0-9999*9999", 1);
        // without a law, too: 0 by a song, 9 and 5 times 9 and 6 and one by how tired she is
        NamedCallers x = Checks.house("st99h9;lp9;vn1p0;vn9p5t3;vn1p0;vn9p5t2;vn1p0");
        Checks.due("60", x.name(1, 0), 60);
        Checks.due("58", x.name(3, 0), 58);
        x.sing();
        Checks.due("1 by 2, cut", x.name(0, 0), 1);
        x.announce(0);
        Checks.due("the clock went on by 1", x.count(7), 1);
        x.announce(2);
        x.sing();
        Checks.due("61", x.name(1, 0), 60);
        Checks.due("59", x.name(3, 0), 59);
    }

    private static void letters() {
        Edges.terms(2, "letters: n SYLLABLES, p HARD sounds, t TITLES now, g how TIRED she is, s whether she SINGS (1, 0), d the DAY");
        NamedCallers x = Checks.house("lp9;vn9p5t2;v;v");
        String[] laws = {"y:n*5+p", "y:t*10+g", "y:s*10+d", "y:d/20"};
        for (int i = 0; i < laws.length; i++) {
            Checks.due("text(1)", Checks.tell(x, 1, laws[i]), i);
        }
        x.law(0);
        Checks.due("n p", x.name(0, 0), 50);
        x.title(0);
        x.announce(1);
        x.law(1);
        Checks.due("t g", x.name(0, 0), 31);
        x.law(2);
        Checks.due("s d: 0, held within 1 .. 60", x.name(0, 0), 1);
        x.sing();
        Checks.due("s d", x.name(0, 0), 10);
        x.day();
        Checks.due("s d", x.name(0, 0), 11);
        x.law(1);
        Checks.due("t g on the next day", x.name(0, 0), 30);
        for (int i = 0; i < 33; i++) {
            x.years(30, 1);
        }
        x.years(8, 1);
        Checks.due("the last day", x.count(6), 999);
        x.law(3);
        Checks.due("d", x.name(0, 0), 49);
    }

    private static void lawThatHolds() {
        Edges.promise(9, "The LAW that holds (NONE: none). False: no such one.");
        NamedCallers x = new NamedCallers();
        Checks.due("law(0) of none", x.law(0), false);
        Checks.due("law(NONE)", x.law(NONE), true);
        Checks.tell(x, 1, "y:7");
        Checks.due("none holds by being told", x.count(5), NONE);
        Checks.due("law(0) without a house", x.law(0), true);
        Checks.due("it holds", x.count(5), 0);
        int[] wrong = {-2, 1, 4, Integer.MIN_VALUE, Integer.MAX_VALUE};
        for (int law : wrong) {
            Checks.due("law(" + law + ")", x.law(law), false);
            Checks.due("it still holds", x.count(5), 0);
        }
        Checks.due("a house", Checks.tell(x, 0, "l;v"), 1);
        Checks.due("name by it", x.name(0, 0), 7);
        Checks.due("law(0), which holds", x.law(0), true);
        Checks.due("law(NONE)", x.law(NONE), true);
        Checks.due("none holds", x.count(5), NONE);
        Checks.due("name by none", x.name(0, 0), 5);
    }

    private static void worth(String law, int want) {
        NamedCallers x = Checks.house("l;v");
        Checks.due("text(1) of " + law, Checks.tell(x, 1, law), 0);
        x.law(0);
        Checks.due("name by " + law, x.name(0, 0), want);
    }
}
