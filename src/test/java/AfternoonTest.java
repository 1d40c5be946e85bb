/** Promises 21 to 23, 41 and 42: steps, run, perform, images. */
public final class AfternoonTest {
    private static final int HIDDEN = NamedCallers.HIDDEN;

    public static void main(String[] args) {
        steps();
        runs();
        stepsThatCannotBe();
        lastDay();
        images();
        Checks.finish();
    }

    private static void steps() {
        NamedCallers x = new NamedCallers();
        Checks.tell(x, 2, "c3 ; t0;g;h9;d");
        int[] kinds = {0, 1, 2, 3, 4};
        int[] digits = {3, 0, -1, 9, -1};
        for (int i = 0; i < 5; i++) {
            Checks.due("step(0, " + i + ", 0)", x.step(0, i, 0), kinds[i]);
            Checks.due("step(0, " + i + ", 1)", x.step(0, i, 1), digits[i]);
        }
        Checks.due("no such step", x.step(0, 5, 0), HIDDEN);
        Checks.due("no such step", x.step(0, -1, 0), HIDDEN);
        Checks.due("no such what", x.step(0, 0, 2), HIDDEN);
        Checks.due("no such what", x.step(0, 0, -1), HIDDEN);
        Checks.due("no such afternoon", x.step(1, 0, 0), HIDDEN);
        Checks.due("no such afternoon", x.step(-1, 0, 0), HIDDEN);
        Checks.tape(x, "t1;t2");
        x.fault(2);
        Checks.due("a tape looked at tells none", x.step(1, 0, 0), HIDDEN);
    }

    private static void runs() {
        NamedCallers x = Checks.house("st30;lw2;v;v;v");
        Checks.tell(x, 2, "c0;c1;d;c0;h9");
        Checks.tell(x, 2, "c0;t1;c0;c2");
        Checks.due("all can be", x.run(0, 0), -1);
        Checks.due("gain", x.run(0, 1), 15);
        Checks.due("the third can't be", x.run(1, 0), 2);
        Checks.due("gain up to there", x.run(1, 1), 5);
        Checks.due("apart", x.count(15) + x.count(7) + x.count(10), 0);
        Checks.due("no such", x.run(2, 0), HIDDEN);
        Checks.due("no such", x.run(-1, 0), HIDDEN);
        Checks.due("no such", x.run(0, 2), HIDDEN);
        Checks.due("no such", x.run(0, -1), HIDDEN);
        Checks.due("perform", x.perform(1), 2);
        Checks.due("as acts", x.count(15), 2);
        Checks.due("coins", x.rule(2), 18);
        Checks.due("none can be", x.run(0, 0), 0);
        Checks.due("no gain", x.run(0, 1), 0);
        Checks.due("perform of none", x.perform(0), 0);
        Checks.due("no act", x.count(15), 2);
        Checks.due("no such", x.perform(2), -1);
        Checks.due("no such", x.perform(-1), -1);
        x.undo();
        x.undo();
        Checks.due("perform", x.perform(0), 5);
        Checks.due("as acts", x.count(15), 5);
        Checks.due("a day went by", x.count(6), 1);
        Checks.due("its log", x.log(0, 1), 3);
        Checks.due("gain then", x.count(10), 15);
    }

    private static void cannot(String house, String afternoon, int behind) {
        NamedCallers x = Checks.house(house);
        Checks.due("afternoon " + afternoon, Checks.tell(x, 2, afternoon), 0);
        Checks.due("run of " + afternoon, x.run(0, 0), behind);
        int all = afternoon.split(";").length;
        Checks.due("perform of " + afternoon, x.perform(0), behind < 0 ? all : behind);
    }

    private static void stepsThatCannotBe() {
        cannot("l;v", "g;c1", 1);
        cannot("l;v", "g;t1", 1);
        cannot("l;v", "g;h0", 1);
        cannot("st10;l;v", "g;h9;h1;h1", 3);
        cannot("st4;l;v", "g;g;c0", 2);
        cannot("st4;l;v", "g;c0", -1);
        cannot("lp0;v", "g;c0", 1);
        cannot("l;vt2", "t0;t0", 1);
        cannot("sc3;l;vt0", "t0;t0", 1);
        cannot("sc3;l;vt0", "t0;c0;d;t0", -1);
        cannot("l;v", "c0;d;c0;c0", 3);
        cannot("l;v", "d;d;d;d;d;d;d;d;d;d;d;d;d;d;d;d", -1);
    }

    private static void lastDay() {
        NamedCallers x = Checks.house("l;v");
        for (int i = 0; i < 33; i++) {
            x.years(30, i);
        }
        x.years(8, 1);
        Checks.tell(x, 2, "d;g;d;g");
        Checks.due("998", x.count(6), 998);
        Checks.due("no day behind 999", x.run(0, 0), 2);
        Checks.due("no day behind 999", x.perform(0), 2);
        Checks.due("999", x.count(6), 999);
    }

    private static void images() {
        NamedCallers x = Checks.house("sc9;lp9;lp9;v;vt2;vl1");
        Checks.due("no image", x.back(), -1);
        x.announce(0);
        x.day();
        x.announce(2);
        x.sing();
        x.title(0);
        x.hold(4);
        Checks.due("image", x.image(), 1);
        String kept = withoutActs(x);
        Checks.due("no act", x.count(15), 6);
        x.announce(1);
        x.drop(0);
        x.drop(1);
        x.sing();
        x.day();
        x.years(30, 5);
        x.years(30, 6);
        x.years(30, 7);
        Checks.due("back", x.back(), 1);
        Checks.due("all as it was", withoutActs(x).equals(kept), true);
        Checks.due("no act can be undone", x.count(15), 0);
        Checks.due("no act can be undone", x.undo(), -1);
        x.day();
        Checks.due("the log goes on", x.log(0, 1), 4);
        Checks.due("the log goes on", x.log(1, 1), 1);
        Checks.due("back again", x.back(), 1);
        Checks.due("all as it was", withoutActs(x).equals(kept), true);
        x.day();
        x.day();
        Checks.due("another image", x.image(), 3);
        x.day();
        Checks.due("back to it", x.back(), 3);
        x.heard(0, 5, true);
        Checks.tell(x, 1, "y:9");
        x.law(0);
        x.whim(4);
        x.back();
        Checks.due("heard is not of an image", x.count(13), 1);
        Checks.due("nor the law", x.count(5), 0);
        Checks.due("nor whim", x.count(12), 4);
        // an image of a long log
        NamedCallers y = Checks.house("l;v");
        y.years(30, 1);
        y.years(30, 2);
        y.years(30, 3);
        String long90 = withoutActs(y);
        y.image();
        for (int i = 4; i < 12; i++) {
            y.years(30, i);
        }
        Checks.due("back", y.back(), 90);
        Checks.due("all as it was", withoutActs(y).equals(long90), true);
    }

    private static String withoutActs(NamedCallers x) {
        String portrait = Checks.portrait(x);
        String[] words = portrait.split(" ");
        words[15] = "";
        return String.join(" ", words);
    }
}
