/** Promises 6 to 10 and 43: what is told, the law that holds, whim, counts. */
public final class ToldTest {
    private static final int HIDDEN = NamedCallers.HIDDEN;

    public static void main(String[] args) {
        plainHouse();
        toldHouse();
        laws();
        whims();
        lawWorths();
        counts();
        Checks.finish();
    }

    private static void plainHouse() {
        NamedCallers x = Checks.house("l;v");
        int[] rules = {60, 2, 20};
        int[] lodger = {2, 3, 3};
        int[] caller = {3, 1, 0, 5, 3, 0, 0, 0};
        for (int i = 0; i < rules.length; i++) {
            Checks.due("plain rule(" + i + ")", x.rule(i), rules[i]);
        }
        for (int i = 0; i < lodger.length; i++) {
            Checks.due("plain lodger(0, " + i + ")", x.lodger(0, i), lodger[i]);
        }
        for (int i = 0; i < caller.length; i++) {
            Checks.due("plain caller(0, " + i + ")", Checks.callerOr(x, 0, i), caller[i]);
        }
    }

    private static void toldHouse() {
        NamedCallers x = Checks.house("vl1n9p5t3b30w9a07;st99h9c98;lw9p8;lp1w7;va42n1p0b1w0");
        Checks.due("rule(0)", x.rule(0), 99);
        Checks.due("rule(1)", x.rule(1), 9);
        Checks.due("rule(2)", x.rule(2), 98);
        Checks.due("rule(3)", x.rule(3), -1);
        Checks.due("rule(-1)", x.rule(-1), -1);
        Checks.due("lodger(0, 0)", x.lodger(0, 0), 9);
        Checks.due("lodger(0, 1)", x.lodger(0, 1), 8);
        Checks.due("lodger(1, 0)", x.lodger(1, 0), 7);
        Checks.due("lodger(1, 1)", x.lodger(1, 1), 1);
        Checks.due("lodger(1, 2)", x.lodger(1, 2), 1);
        Checks.due("lodger(2, 0)", x.lodger(2, 0), -1);
        Checks.due("lodger(-1, 0)", x.lodger(-1, 0), -1);
        Checks.due("lodger(0, 3)", x.lodger(0, 3), -1);
        Checks.due("lodger(0, -1)", x.lodger(0, -1), -1);
        int[] first = {9, 5, 3, 30, 9, 1, 7, 0};
        int[] second = {1, 0, 0, 1, 0, 0, 42, 0};
        for (int i = 0; i < 8; i++) {
            Checks.due("caller(0, " + i + ")", Checks.callerOr(x, 0, i), first[i]);
            Checks.due("caller(1, " + i + ")", Checks.callerOr(x, 1, i), second[i]);
        }
        Checks.due("caller(2, 0) throws", Checks.callerOr(x, 2, 0), HIDDEN);
        Checks.due("caller(-1, 0) throws", Checks.callerOr(x, -1, 0), HIDDEN);
        Checks.due("caller(0, 8) throws", Checks.callerOr(x, 0, 8), HIDDEN);
        Checks.due("caller(0, -1) throws", Checks.callerOr(x, 0, -1), HIDDEN);
        Checks.due("caller of extremes throws", Checks.callerOr(x, Integer.MIN_VALUE, Integer.MAX_VALUE), HIDDEN);
        x.announce(1);
        Checks.due("announced", Checks.callerOr(x, 1, 7), 1);
        Checks.due("not announced", Checks.callerOr(x, 0, 7), 0);
        Checks.due("room behind a call", x.lodger(0, 2), 7);
        x.drop(0);
        Checks.due("titles now", Checks.callerOr(x, 0, 2), 2);
        x.title(0);
        Checks.due("coins now", x.rule(2), 96);
    }

    private static void laws() {
        NamedCallers x = Checks.house("l;v");
        Checks.due("law told", Checks.tell(x, 1, "y:7"), 0);
        Checks.due("it does not hold by itself", x.count(5), -1);
        Checks.due("name without", x.name(0, 0), 5);
        Checks.due("law(1)", x.law(1), false);
        Checks.due("law(-2)", x.law(-2), false);
        Checks.due("law(0)", x.law(0), true);
        Checks.due("count(5)", x.count(5), 0);
        Checks.due("law(0) again", x.law(0), true);
        Checks.due("name by it", x.name(0, 0), 7);
        Checks.due("law(1) is refused", x.law(1), false);
        Checks.due("it still holds", x.name(0, 0), 7);
        Checks.due("law(NONE)", x.law(-1), true);
        Checks.due("count(5)", x.count(5), -1);
        Checks.due("name without", x.name(0, 0), 5);
        Checks.due("no act", x.count(15), 0);
    }

    private static void whims() {
        NamedCallers x = new NamedCallers();
        Checks.due("whim(1)", x.whim(1), false);
        Checks.due("whim(-1)", x.whim(-1), false);
        Checks.due("whim(10)", x.whim(10), false);
        Checks.due("count(12)", x.count(12), 1);
        Checks.due("whim(0)", x.whim(0), true);
        Checks.due("whim(0) again", x.whim(0), false);
        Checks.due("whim(9)", x.whim(9), true);
        Checks.due("count(12)", x.count(12), 9);
    }

    private static void worth(String law, int want) {
        NamedCallers x = Checks.house("l;vn7p5t3b30");
        Checks.due("law " + law, Checks.tell(x, 1, law), 0);
        x.law(0);
        Checks.due("name by " + law, x.name(0, 0), want);
    }

    private static void lawWorths() {
        worth("y:n", 7);
        worth("y:p", 5);
        worth("y:t", 3);
        worth("y:g+10", 10);
        worth("y:s+10", 10);
        worth("y:d+10", 10);
        worth("y:0", 1);
        worth("y:0-5", 1);
        worth("y:61", 60);
        worth("y:60", 60);
        worth("y:9999", 60);
        worth("y:2+3*4", 14);
        worth("y:20-3-4", 13);
        worth("y:40/3/2", 6);
        worth("y:40/3*2", 26);
        worth("y:[20-3]*[4-2]", 34);
        worth("y:20-[3-4]", 21);
        worth("y:7/0+9", 9);
        worth("y:20+[0-7]/2", 17);
        worth("y:20+7/[0-2]", 17);
        worth("y:9999*9999-9999*99-9980", 1000000 - 989901 - 9980 > 60 ? 60 : 1000000 - 989901 - 9980);
        worth("y:[9999*9999]/9999-99", 1);
        worth("y:[9999*9999]/9999-90", 10);
        worth("y:[0-9999*9999]/9999+110", 10);
        worth("y:9999*9999+9999*9999-9999*9999+20", 20);
        worth("y:n=7?11;y:12", 11);
        worth("y:n=8?11;y:12", 12);
        worth("y:n=8?11", 1);
        worth("y:n=8?11;y:p=5?12;y:13", 12);
        worth("y:13;y:n=7?11", 13);
        worth("y:n>6?11;y:12", 11);
        worth("y:n>7?11;y:12", 12);
        worth("y:n<8?11;y:12", 11);
        worth("y:n<7?11;y:12", 12);
        worth("y:!n=7?11;y:12", 12);
        worth("y:!!n=7?11;y:12", 11);
        worth("y:n=7|n=8&n=9?11;y:12", 11);
        worth("y:(n=7|n=8)&n=9?11;y:12", 12);
        worth("y:!n=8&n=7?11;y:12", 11);
        worth("y:!(n=8&n=7)?11;y:12", 11);
        worth("y:!n=7|p=5?11;y:12", 11);
        worth("y:n=7&p=5&t=4|t=3?11;y:12", 11);
        worth("y:n+p=12?11;y:12", 11);
        worth("y:[n]=p+2?11;y:12", 11);
        worth("y:1=1?2;y:3", 2);
        NamedCallers x = Checks.house("l;v");
        Checks.tell(x, 1, "y:10+g*7+s*3+d");
        x.law(0);
        Checks.due("at first", x.name(0, 0), 10);
        x.sing();
        Checks.due("sung", x.name(0, 0), 13);
        x.announce(0);
        Checks.due("tired", x.name(0, 0), 20);
        x.day();
        Checks.due("on day 1", x.name(0, 0), 14);
    }

    private static void counts() {
        NamedCallers x = Checks.house("l;l;v;v;v");
        Checks.tape(x, "abcd");
        x.announce(0);
        x.announce(1);
        x.sing();
        x.heard(1, 5, true);
        x.heard(1, 6, true);
        // behind this: a day with one call more
        x.day();
        x.announce(2);
        int[] want = {3, 2, 0, 0, 4, -1, 1, 2, 1, 1, 10, 0, 1, 2, 1, 5};
        for (int i = 0; i < want.length; i++) {
            Checks.due("count(" + i + ")", x.count(i), want[i]);
        }
        Checks.due("count(16)", x.count(16), HIDDEN);
        Checks.due("count(-1)", x.count(-1), HIDDEN);
        x.undo();
        x.undo();
        Checks.due("done that day", x.count(11), 2);
        Checks.due("the clock", x.count(7), 10);
        Checks.due("tired", x.count(8), 2);
    }
}
