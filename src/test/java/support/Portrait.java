import java.util.HashMap;
import java.util.Map;

/**
 * All that can be seen of an object behind some calls. They are made anew on an object for each part of it,
 * for what an object answers behind its 512th call is free.
 */
final class Portrait {
    private static final Map<Edges.Calls, String> KNOWN = new HashMap<>();

    private final StringBuilder told = new StringBuilder();
    private final Edges.Calls calls;

    private Portrait(Edges.Calls calls) {
        this.calls = calls;
    }

    static String of(Edges.Calls calls) {
        return KNOWN.computeIfAbsent(calls, c -> new Portrait(c).whole());
    }

    private String whole() {
        present(fresh());
        log(fresh());
        afternoons(fresh());
        laws(fresh());
        tape(fresh());
        undoneCounts(fresh());
        undoneTitles(fresh());
        NamedCallers back = fresh();
        add(back.back());
        present(back);
        NamedCallers backToLog = fresh();
        add(backToLog.back());
        log(backToLog);
        return told.toString();
    }

    private NamedCallers fresh() {
        told.append('\n');
        return Edges.after(calls);
    }

    private void add(int answer) {
        told.append(answer).append(' ');
    }

    private void present(NamedCallers x) {
        for (int i = 0; i < 16; i++) {
            add(x.count(i));
        }
        for (int i = 0; i < 3; i++) {
            add(x.rule(i));
            add(x.fault(i));
        }
        for (int i = 0; i < 4; i++) {
            for (int what = 0; what < 3; what++) {
                add(x.lodger(i, what));
            }
            add(x.whose(i));
        }
        for (int i = 0; i < 6; i++) {
            for (int what = 0; what < 8; what++) {
                add(Checks.callerOr(x, i, what));
            }
            add(x.name(i, 0));
            add(x.hards(i));
        }
    }

    private void log(NamedCallers x) {
        for (int i = 0; i < 61; i++) {
            for (int what = 0; what < 3; what++) {
                add(x.log(i, what));
            }
        }
    }

    private void afternoons(NamedCallers x) {
        for (int afternoon = 0; afternoon < 4; afternoon++) {
            add(x.run(afternoon, 0));
            add(x.run(afternoon, 1));
            for (int i = 0; i < 17; i++) {
                add(x.step(afternoon, i, 0));
                add(x.step(afternoon, i, 1));
            }
        }
    }

    private void laws(NamedCallers x) {
        for (int law = -1; law < 4; law++) {
            add(Edges.bit(x.law(law)));
            for (int caller = 0; caller < 6; caller++) {
                add(x.name(caller, 0));
                add(x.sung(caller, 0));
            }
        }
    }

    /** What is on the tape: as a house, if it is one, and else by its faults when it is cut shorter and shorter. */
    private void tape(NamedCallers x) {
        add(x.count(4));
        add(x.text(0));
        for (int caller = 0; caller < 6; caller++) {
            for (int what = 0; what < 7; what++) {
                add(Checks.callerOr(x, caller, what));
            }
        }
        for (int n = x.count(4); n >= 0 && n > 200; n--) {
            x.end(n);
            add(x.fault(0));
        }
    }

    private void undoneCounts(NamedCallers x) {
        int left = 0;
        for (int i = 0; i < 42 && left >= 0; i++) {
            left = x.undo();
            add(left);
            for (int what = 6; what < 12; what++) {
                add(x.count(what));
            }
            add(x.rule(2));
        }
    }

    private void undoneTitles(NamedCallers x) {
        int left = 0;
        for (int i = 0; i < 42 && left >= 0; i++) {
            left = x.undo();
            for (int caller = 0; caller < 6; caller++) {
                add(Checks.callerOr(x, caller, 2));
            }
            add(x.log(0, 1));
        }
    }
}
