import java.util.TreeSet;
import java.util.regex.Matcher;
import java.util.regex.Pattern;

/**
 * Every reason for which a promise refuses a call, by its own words, with what the call answers; and
 * "What is refused answers as told and changes nothing."
 */
public final class RefusedEdgeTest {
    private static final int NONE = NamedCallers.NONE;
    private static final int HIDDEN = NamedCallers.HIDDEN;
    private static final int MIN = Integer.MIN_VALUE;
    private static final int MAX = Integer.MAX_VALUE;
    private static final Pattern REASONS = Pattern.compile("(?:^|[.:)] )(NONE|False|HIDDEN|NoSuchElementException|-2): ([^.]+)\\.");

    private static final TreeSet<String> TESTED = new TreeSet<>();

    /** Two lodgers, four callers, two laws, two afternoons; some were announced; there is an image, and a house on the tape. */
    private static final Edges.Calls RICH = x -> {
        Checks.tell(x, 1, "y:n+p*2+t+g/2");
        Checks.tell(x, 1, "y:9");
        Checks.tell(x, 2, "c2;d;c1");
        Checks.tell(x, 2, "g;h3");
        Checks.tell(x, 0, "st50c9;lw4p3;lw1p1;va12t1;vn5b7l1a13;vp0b2a12;vn2p4b11w7");
        x.law(0);
        x.whim(4);
        x.heard(1, 7, true);
        x.announce(0);
        x.title(2);
        x.sing();
        x.day();
        x.announce(2);
        x.image();
        x.hold(3);
        x.announce(1);
        Checks.tape(x, "l;vn7a42;v");
    };

    /** As much as there can be without a house. */
    private static final Edges.Calls HOMELESS = x -> {
        Checks.tell(x, 1, "y:n");
        Checks.tell(x, 2, "g;h3");
        x.law(0);
        x.whim(4);
        Checks.tape(x, "l;vn7a42;v");
    };

    private static final Edges.Calls NEW = x -> {
    };

    public static void main(String[] args) {
        Edges.terms(4, "What is refused answers as told and changes nothing.");
        tape();
        told();
        settings();
        acts();
        days();
        undoAndLog();
        afternoons();
        names();
        hearsay();
        gamesAndOdds();
        allOfThem();
        images();
        questionsChangeNothing();
        everyReasonTested();
        Checks.finish();
    }

    /** The calls behind it are refused for this reason of a promise. */
    private static void reason(int promise, String words) {
        Edges.promise(promise, words);
        TESTED.add(promise + ": " + words);
    }

    private static void everyReasonTested() {
        TreeSet<String> told = new TreeSet<>();
        for (int promise = 2; promise <= 43; promise++) {
            Matcher found = REASONS.matcher(Edges.promise(promise));
            // a reason may begin where the one ahead of it ends
            for (int from = 0; found.find(from); from = found.end() - 1) {
                for (String words : found.group(2).split(", ")) {
                    told.add(promise + ": " + words);
                }
            }
        }
        told.add("43: HIDDEN for others");
        // that there is no fault is no refusal
        told.remove("4: none");
        Checks.by("the reasons of all promises: ");
        Checks.due("how many there are", told.size(), 76);
        for (String reason : told) {
            Checks.due(reason + " is tested", TESTED.contains(reason), true);
        }
        for (String reason : TESTED) {
            Checks.due(reason + " is told", told.contains(reason), true);
        }
    }

    private static void refused(String call, Edges.Calls ahead, Edges.Answer answer, int want) {
        Edges.leaves(call, ahead, answer, want);
    }

    private interface Asked {
        int of(NamedCallers x, int argument);
    }

    private static void refusedFor(String call, Edges.Calls ahead, Asked asked, int want, int... arguments) {
        for (int argument : arguments) {
            refused(call + " by " + argument, ahead, x -> asked.of(x, argument), want);
        }
    }

    private static void homeless(String call, Edges.Answer answer, int want) {
        refused(call + " of a new object", NEW, answer, want);
        refused(call + " without a house", HOMELESS, answer, want);
    }

    /** A call for a caller: nobody's number, and any number where there is no house. */
    private static void noSuchCaller(String call, Asked asked, int want) {
        refusedFor(call, RICH, asked, want, -1, 4, 5, 6, MIN, MAX);
        refusedFor(call, HOMELESS, asked, want, 0, -1);
        refusedFor(call, x -> Checks.tell(x, 0, "st99;lp9;v;v;v;v;v;v"), asked, want, 6);
        refusedFor(call, x -> Checks.tell(x, 0, "l;v"), asked, want, 1);
    }

    private static void tape() {
        reason(2, "more than 240");
        Edges.Calls nearlyFull = x -> {
            RICH.on(x);
            Checks.tape(x, "l;vn7a42;v" + Edges.times(228, " "));
        };
        refused("feed of 3 on 238", nearlyFull, x -> x.feed(0x20000000, 0x00200000, 0, 0, 0x20), NONE);
        refused("feed of 20 on 238", nearlyFull, x -> x.feed(-1, -1, -1, -1, -1), NONE);
        Checks.due("feed of 2 on 238", Edges.after(nearlyFull).feed(0, 0, 0, 0, 0x2020), 240);
        reason(3, "n");
        refusedFor("end", RICH, (x, n) -> Edges.bit(x.end(n)), 0, -1, 11, MIN, MAX);
        refusedFor("end", NEW, (x, n) -> Edges.bit(x.end(n)), 0, -1, 1, 240);
        reason(4, "no such sort");
        refusedFor("fault", RICH, (x, sort) -> x.fault(sort), -2, -1, 3, MIN, MAX);
        refusedFor("fault", NEW, (x, sort) -> x.fault(sort), -2, -1, 3);
        reason(5, "a FAULT");
        refusedFor("text", RICH, (x, sort) -> x.text(sort), NONE, 1, 2);
        Edges.Calls faulty = x -> {
            RICH.on(x);
            Checks.tape(x, "l;v;");
        };
        refusedFor("text", faulty, (x, sort) -> x.text(sort), NONE, 0, 1, 2);
        refusedFor("text of an empty tape", NEW, (x, sort) -> x.text(sort), NONE, 0, 1, 2);
        reason(5, "no such sort");
        refusedFor("text", RICH, (x, sort) -> x.text(sort), NONE, -1, 3, MIN, MAX);
        reason(5, "there are four");
        Edges.Calls fourLaws = x -> {
            RICH.on(x);
            Checks.tell(x, 1, "y:1");
            Checks.tell(x, 1, "y:2");
            Checks.tape(x, "y:3");
        };
        refused("text of a fifth law", fourLaws, x -> x.text(1), NONE);
        Edges.Calls fourAfternoons = x -> {
            RICH.on(x);
            Checks.tell(x, 2, "g");
            Checks.tell(x, 2, "d");
            Checks.tape(x, "h3");
        };
        refused("text of a fifth afternoon", fourAfternoons, x -> x.text(2), NONE);
    }

    private static void told() {
        reason(6, "no HOUSE");
        for (int what = 0; what < 3; what++) {
            int asked = what;
            homeless("rule", x -> x.rule(asked), NONE);
        }
        reason(6, "no such what");
        refusedFor("rule", RICH, (x, what) -> x.rule(what), NONE, -1, 3, MIN, MAX);
        reason(7, "no such ones");
        refusedFor("lodger", RICH, (x, lodger) -> x.lodger(lodger, 0), NONE, -1, 2, 3, 4, MIN, MAX);
        refusedFor("lodger's what", RICH, (x, what) -> x.lodger(1, what), NONE, -1, 3, MIN, MAX);
        refusedFor("lodger", x -> Checks.tell(x, 0, "l;l;l;l;v"), (x, lodger) -> x.lodger(lodger, 0), NONE, 4);
        homeless("lodger", x -> x.lodger(0, 0), NONE);
        reason(8, "no such ones");
        noSuchCaller("caller", (x, caller) -> thrown(x, caller, 0), 1);
        refusedFor("caller's what", RICH, (x, what) -> thrown(x, 3, what), 1, -1, 8, MIN, MAX);
        for (int what = 0; what < 8; what++) {
            Checks.due("caller(3, " + what + ")", thrown(Edges.after(RICH), 3, what), 0);
        }
    }

    /** 1: just what the document names, 0: nothing. */
    private static int thrown(NamedCallers x, int caller, int what) {
        try {
            x.caller(caller, what);
            return 0;
        } catch (RuntimeException e) {
            return e.getClass() == java.util.NoSuchElementException.class ? 1 : 2;
        }
    }

    private static void settings() {
        reason(9, "no such one");
        refusedFor("law", RICH, (x, law) -> Edges.bit(x.law(law)), 0, -2, 2, 3, 4, MIN, MAX);
        refusedFor("law", NEW, (x, law) -> Edges.bit(x.law(law)), 0, -2, 0);
        reason(10, "out of bounds");
        refusedFor("whim", RICH, (x, v) -> Edges.bit(x.whim(v)), 0, -1, 10, MIN, MAX);
        reason(10, "it is so");
        refusedFor("whim", RICH, (x, v) -> Edges.bit(x.whim(v)), 0, 4);
        refusedFor("whim", NEW, (x, v) -> Edges.bit(x.whim(v)), 0, 1);
    }

    private static void acts() {
        reason(11, "no such CALLER");
        noSuchCaller("announce", (x, caller) -> x.announce(caller), NONE);
        reason(11, "he was");
        refusedFor("announce", RICH, (x, caller) -> x.announce(caller), NONE, 1, 2);
        reason(11, "it can't be");
        Edges.Calls late = x -> {
            Checks.tell(x, 0, "st14;lp9;v;v;v");
            x.announce(1);
            x.hold(5);
        };
        refused("announce beyond the beats", late, x -> x.announce(0), NONE);
        Edges.Calls impatient = x -> {
            Checks.tell(x, 0, "lp1;lp0;v;v;vl1");
            x.announce(1);
        };
        refused("announce beyond patience", impatient, x -> x.announce(0), NONE);
        refused("announce without patience", impatient, x -> x.announce(2), NONE);
        reason(12, "no such CALLER");
        noSuchCaller("title", (x, caller) -> x.title(caller), NONE);
        Edges.Calls titled = x -> {
            Checks.tell(x, 0, "sc5;l;vt3;vt1;v");
            x.title(1);
            x.title(1);
        };
        reason(12, "three");
        refusedFor("title", x -> Checks.tell(x, 0, "sc5;l;vt3"), (x, caller) -> x.title(caller), NONE, 0);
        refusedFor("title", titled, (x, caller) -> x.title(caller), NONE, 0, 1);
        reason(12, "too few COINS");
        refused("title for one coin", titled, x -> x.title(2), NONE);
        refused("title for none", x -> Checks.tell(x, 0, "sc0;l;v"), x -> x.title(0), NONE);
        reason(13, "no such CALLER");
        noSuchCaller("drop", (x, caller) -> x.drop(caller), NONE);
        reason(13, "none");
        refusedFor("drop", RICH, (x, caller) -> x.drop(caller), NONE, 1, 3);
        reason(14, "no HOUSE");
        homeless("sing", x -> x.sing(), NONE);
        reason(15, "no HOUSE");
        homeless("breath", x -> x.breath(), NONE);
        reason(15, "it can't be");
        refused("breath, not tired", x -> Checks.tell(x, 0, "l;v"), x -> x.breath(), NONE);
        Edges.Calls twoLeft = x -> {
            Checks.tell(x, 0, "st7;l;v");
            x.announce(0);
        };
        refused("breath, two beats left", twoLeft, x -> x.breath(), NONE);
        reason(16, "no HOUSE");
        homeless("hold", x -> x.hold(1), NONE);
        reason(16, "out of bounds");
        refusedFor("hold", RICH, (x, n) -> x.hold(n), NONE, 0, -1, 21, MIN, MAX);
        reason(16, "beyond");
        refusedFor("hold", twoLeft, (x, n) -> x.hold(n), NONE, 3, 20);
    }

    /** On the last day but so many, with something to undo. */
    private static Edges.Calls late(int daysLeft) {
        return x -> {
            Checks.tell(x, 0, "lp9;v;v;v");
            for (int i = 0; i < 32; i++) {
                x.years(30, i);
            }
            x.years(29, 1);
            x.years(10 - daysLeft, 2);
            x.announce(1);
            x.hold(2);
        };
    }

    private static void days() {
        Edges.Calls last = late(0);
        Edges.Calls twoLeft = late(2);
        Checks.due("the last day", Edges.after(last).count(6), 999);
        Checks.due("the last day but two", Edges.after(twoLeft).count(6), 997);
        reason(17, "no HOUSE");
        homeless("day", x -> x.day(), NONE);
        reason(17, "beyond 999");
        refused("day", last, x -> x.day(), NONE);
        reason(18, "no HOUSE");
        homeless("years", x -> x.years(1, 1), NONE);
        reason(18, "out of bounds");
        refusedFor("years", RICH, (x, n) -> x.years(n, 1), NONE, 0, -1, 31, MIN, MAX);
        reason(18, "beyond 999");
        refusedFor("years", last, (x, n) -> x.years(n, 1), NONE, 1, 30);
        refusedFor("years", twoLeft, (x, n) -> x.years(n, 1), NONE, 3, 30);
        Checks.due("years(2) on the last day but two", Edges.after(twoLeft).years(2, 1), 999);
    }

    private static void undoAndLog() {
        reason(19, "none");
        homeless("undo", x -> x.undo(), NONE);
        refused("undo in a new house", x -> Checks.tell(x, 0, "l;v"), x -> x.undo(), NONE);
        Edges.Calls allUndone = x -> {
            RICH.on(x);
            for (int i = 0; i < 7; i++) {
                x.undo();
            }
        };
        refused("undo behind the first act", allUndone, x -> x.undo(), NONE);
        Edges.Calls back = x -> {
            RICH.on(x);
            x.back();
        };
        refused("undo behind back", back, x -> x.undo(), NONE);
        reason(20, "no such ones");
        refusedFor("log", RICH, (x, i) -> x.log(i, 0), NONE, -1, 1, 60, MIN, MAX);
        refusedFor("log's what", RICH, (x, what) -> x.log(0, what), NONE, -1, 3, MIN, MAX);
        homeless("log", x -> x.log(0, 0), NONE);
    }

    private static void afternoons() {
        reason(21, "no such ones");
        refusedFor("step", RICH, (x, afternoon) -> x.step(afternoon, 0, 0), HIDDEN, -1, 2, 3, 4, MIN, MAX);
        refusedFor("step's i", RICH, (x, i) -> x.step(0, i, 0), HIDDEN, -1, 3, 16, MIN, MAX);
        refusedFor("step's what", RICH, (x, what) -> x.step(0, 0, what), HIDDEN, -1, 2, MIN, MAX);
        refused("step of none", NEW, x -> x.step(0, 0, 0), HIDDEN);
        reason(22, "no such ones");
        refusedFor("run", RICH, (x, afternoon) -> x.run(afternoon, 0), HIDDEN, -1, 2, 3, 4, MIN, MAX);
        refusedFor("run's what", RICH, (x, what) -> x.run(0, what), HIDDEN, -1, 2, MIN, MAX);
        reason(22, "no HOUSE");
        homeless("run", x -> x.run(0, 0), HIDDEN);
        homeless("run", x -> x.run(0, 1), HIDDEN);
        reason(23, "no such AFTERNOON");
        refusedFor("perform", RICH, (x, afternoon) -> x.perform(afternoon), NONE, -1, 2, 3, 4, MIN, MAX);
        refused("perform of none that can be done", RICH, x -> x.perform(0), 0);
        reason(23, "no HOUSE");
        homeless("perform", x -> x.perform(0), NONE);
    }

    private static void names() {
        reason(24, "no such ones");
        noSuchCaller("name", (x, caller) -> x.name(caller, 0), NONE);
        noSuchCaller("name", (x, caller) -> x.name(caller, 1), NONE);
        refusedFor("name's what", RICH, (x, what) -> x.name(0, what), NONE, -1, 2, MIN, MAX);
        reason(25, "no HOUSE");
        for (int what = 0; what < 3; what++) {
            int asked = what;
            homeless("order", x -> x.order(asked), NONE);
        }
        reason(25, "no such what");
        refusedFor("order", RICH, (x, what) -> x.order(what), NONE, -1, 3, MIN, MAX);
        reason(26, "by none");
        refused("needs", x -> Checks.tell(x, 0, "l;vb12"), x -> x.needs(0), NONE);
        reason(26, "no such CALLER");
        noSuchCaller("needs", (x, caller) -> x.needs(caller), NONE);
        reason(27, "no HOUSE");
        homeless("timed", x -> x.timed(1), NONE);
        reason(27, "out of bounds");
        refusedFor("timed", RICH, (x, b) -> x.timed(b), NONE, 0, -1, 61, MIN, MAX);
    }

    private static void hearsay() {
        reason(28, "no such CALLER");
        noSuchCaller("heard", (x, caller) -> x.heard(caller, 1, true), NONE);
        reason(28, "out of bounds");
        refusedFor("heard", RICH, (x, b) -> x.heard(0, b, true), NONE, 0, -1, 61, MIN, MAX);
        refusedFor("heard", RICH, (x, b) -> x.heard(0, b, false), NONE, 0, -1, 61, MIN, MAX);
        reason(28, "there are ten");
        Edges.Calls ten = x -> {
            RICH.on(x);
            for (int i = 0; i < 9; i++) {
                x.heard(0, 2 + i, true);
            }
        };
        refused("heard", ten, x -> x.heard(0, 60, true), NONE);
        reason(29, "no such CALLER");
        noSuchCaller("hards", (x, caller) -> x.hards(caller), NONE);
        reason(30, "nothing fits of any");
        Edges.Calls unfit = x -> {
            Checks.tell(x, 0, "l;v;v");
            x.heard(0, 60, true);
            x.heard(1, 1, false);
        };
        refusedFor("ask", unfit, (x, b) -> x.ask(b), NONE, 1, 5, 60);
        reason(30, "no HOUSE");
        homeless("ask", x -> x.ask(1), NONE);
        reason(30, "out of bounds");
        refusedFor("ask", RICH, (x, b) -> x.ask(b), NONE, 0, -1, 61, MIN, MAX);
        reason(31, "by neither");
        refusedFor("apart", RICH, (x, set) -> x.apart(set), NONE, 5, 7, 15);
        reason(31, "no such set");
        refusedFor("apart", RICH, (x, set) -> x.apart(set), NONE, 0, 1, 2, 4, 8, 16, 17, 19, 35, -1, MIN, MIN + 3, MAX);
        reason(31, "no HOUSE");
        homeless("apart", x -> x.apart(3), NONE);
    }

    private static void gamesAndOdds() {
        reason(32, "no such ones");
        noSuchCaller("game's first", (x, caller) -> x.game(caller, 0, 0, 0, 0), HIDDEN);
        noSuchCaller("game's second", (x, caller) -> x.game(0, caller, 0, 0, 0), HIDDEN);
        refusedFor("game's what", RICH, (x, what) -> x.game(0, 1, 0, 0, what), HIDDEN, -1, 2, MIN, MAX);
        reason(32, "alike");
        refusedFor("game", RICH, (x, caller) -> x.game(caller, caller, 0, 0, 0), HIDDEN, 0, 1, 2, 3);
        reason(32, "out of bounds");
        refusedFor("game's x", RICH, (x, titles) -> x.game(0, 1, titles, 0, 0), HIDDEN, -1, 4, MIN, MAX);
        refusedFor("game's y", RICH, (x, titles) -> x.game(0, 1, 0, titles, 0), HIDDEN, -1, 4, MIN, MAX);
        reason(33, "no such one");
        refusedFor("rests", x -> Checks.tell(x, 0, "l;vb30;vb30"), (x, i) -> x.rests(0, 1, i), NONE, 3, 4, -2, MIN, MAX);
        reason(33, "no such CALLERS");
        noSuchCaller("rests' first", (x, caller) -> x.rests(caller, 0, NONE), NONE);
        noSuchCaller("rests' second", (x, caller) -> x.rests(0, caller, NONE), NONE);
        reason(33, "alike");
        refusedFor("rests", RICH, (x, caller) -> x.rests(caller, caller, NONE), NONE, 0, 1, 2, 3);
        reason(34, "no such CALLER");
        noSuchCaller("odds", (x, caller) -> x.odds(caller, 50), NONE);
        reason(34, "out of bounds");
        refusedFor("odds", RICH, (x, chance) -> x.odds(0, chance), NONE, -1, 101, MIN, MAX);
        reason(35, "no such CALLER");
        noSuchCaller("mean", (x, caller) -> x.mean(caller), NONE);
    }

    private static void allOfThem() {
        reason(36, "no HOUSE");
        for (int what = 0; what < 10; what++) {
            int asked = what;
            homeless("all", x -> x.all(asked), NONE);
        }
        reason(36, "no such what");
        refusedFor("all", RICH, (x, what) -> x.all(what), NONE, -1, 10, MIN, MAX);
        reason(37, "no such one");
        refusedFor("whose", RICH, (x, lodger) -> x.whose(lodger), NONE, -1, 2, 3, 4, MIN, MAX);
        homeless("whose", x -> x.whose(0), NONE);
        reason(38, "no HOUSE");
        homeless("queue", x -> x.queue(0), NONE);
        homeless("queue", x -> x.queue(1), NONE);
        reason(38, "no such what");
        refusedFor("queue", RICH, (x, what) -> x.queue(what), NONE, -1, 2, MIN, MAX);
        reason(39, "no such ones");
        noSuchCaller("sung", (x, caller) -> x.sung(caller, 0), NONE);
        noSuchCaller("sung", (x, caller) -> x.sung(caller, 1), NONE);
        refusedFor("sung's what", RICH, (x, what) -> x.sung(0, what), NONE, -1, 2, MIN, MAX);
        reason(40, "too long as he is");
        refused("span", x -> Checks.tell(x, 0, "st4;l;v"), x -> x.span(0), NONE);
        reason(40, "no such CALLER");
        noSuchCaller("span", (x, caller) -> x.span(caller), NONE);
    }

    private static void images() {
        reason(41, "no HOUSE");
        homeless("image", x -> x.image(), NONE);
        reason(42, "no IMAGE of this HOUSE");
        homeless("back", x -> x.back(), NONE);
        Edges.Calls moved = x -> {
            RICH.on(x);
            x.text(0);
            x.announce(0);
        };
        Checks.due("another house", Edges.after(moved).count(0), 2);
        refused("back to another house's", moved, x -> x.back(), NONE);
        Edges.promise(43, "HIDDEN for others");
        TESTED.add("43: HIDDEN for others");
        refusedFor("count", RICH, (x, what) -> x.count(what), HIDDEN, -1, 16, MIN, MAX);
        refusedFor("count", NEW, (x, what) -> x.count(what), HIDDEN, -1, 16);
    }

    /** Terms 3: all that is asked is worked out apart. */
    private static void questionsChangeNothing() {
        Edges.terms(3, "(Apart, from as it is");
        Edges.Calls all = x -> {
            RICH.on(x);
            for (int i = 0; i < 10; i++) {
                x.all(i);
            }
            for (int i = 0; i < 3; i++) {
                x.fault(i);
                x.order(i);
                x.queue(i);
                x.run(0, i);
                x.run(1, i);
            }
            for (int i = 0; i < 4; i++) {
                x.name(i, 0);
                x.name(i, 1);
                x.needs(i);
                x.hards(i);
                x.odds(i, 33);
                x.mean(i);
                x.sung(i, 0);
                x.sung(i, 1);
                x.span(i);
                x.game(i, 3 - i, 3, 2, 0);
                x.game(i, 3 - i, 1, 2, 1);
                x.rests(i, 3 - i, NONE);
                x.rests(i, 3 - i, 0);
                x.ask(1 + 15 * i);
                x.timed(1 + 15 * i);
                x.apart(3 << i);
            }
        };
        Checks.due("all is as it was", Portrait.of(all).equals(Portrait.of(RICH)), true);
        Edges.Calls answers = x -> {
            RICH.on(x);
            x.undo();
        };
        Checks.due("but not behind an act", Portrait.of(answers).equals(Portrait.of(RICH)), false);
    }
}
