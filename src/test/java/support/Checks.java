import java.nio.charset.StandardCharsets;

/** What the project's tests share: texts fed to the tape, answers compared, the exit code. */
final class Checks {
    private static int wrong = 0;
    private static int made = 0;
    private static String by = "";

    private Checks() {
    }

    /** By which words of the document the answers behind it are due. */
    static void by(String words) {
        by = words;
    }

    static void due(String call, long got, long want) {
        made++;
        if (got != want) {
            wrong++;
            System.out.println(by + call + " answered " + got + ", due is " + want);
        }
    }

    static void due(String call, boolean got, boolean want) {
        due(call, got ? 1 : 0, want ? 1 : 0);
    }

    static void finish() {
        System.out.println(made + " answers, " + wrong + " not as due");
        if (wrong != 0 || made == 0) {
            System.exit(1);
        }
    }

    /** The tape holds just this text then. */
    static void tape(NamedCallers x, String text) {
        x.end(0);
        byte[] bytes = text.getBytes(StandardCharsets.ISO_8859_1);
        for (int from = 0; from < bytes.length; from += 20) {
            int[] words = new int[5];
            for (int i = 0; i < 20 && from + i < bytes.length; i++) {
                words[i / 4] |= (bytes[from + i] & 255) << 24 - 8 * (i % 4);
            }
            x.feed(words[0], words[1], words[2], words[3], words[4]);
        }
    }

    static int tell(NamedCallers x, int sort, String text) {
        tape(x, text);
        return x.text(sort);
    }

    static NamedCallers house(String text) {
        NamedCallers x = new NamedCallers();
        due("text(0) of " + text + " is told", tell(x, 0, text) > 0, true);
        return x;
    }

    static void fault(int sort, String text, int want) {
        NamedCallers x = new NamedCallers();
        tape(x, text);
        due("fault(" + sort + ") of '" + text + "'", x.fault(sort), want);
        due("text(" + sort + ") of '" + text + "' is told", x.text(sort) != NamedCallers.NONE, want == NamedCallers.NONE);
        due("bytes then", x.count(4), want == NamedCallers.NONE ? 0 : text.length());
    }

    /** What caller answers, HIDDEN where it throws what it should. */
    static int callerOr(NamedCallers x, int caller, int what) {
        try {
            return x.caller(caller, what);
        } catch (java.util.NoSuchElementException e) {
            return NamedCallers.HIDDEN;
        }
    }

    /** All that can be asked without changing anything, as one text. */
    static String portrait(NamedCallers x) {
        StringBuilder b = new StringBuilder();
        for (int i = 0; i <= 16; i++) {
            b.append(x.count(i)).append(' ');
        }
        for (int i = 0; i < 3; i++) {
            b.append(x.rule(i)).append(' ').append(x.fault(i)).append(' ');
        }
        for (int i = 0; i < 4; i++) {
            for (int what = 0; what < 3; what++) {
                b.append(x.lodger(i, what)).append(' ');
            }
        }
        for (int i = 0; i < 6; i++) {
            for (int what = 0; what < 8; what++) {
                b.append(callerOr(x, i, what)).append(' ');
            }
            b.append(x.name(i, 0)).append(' ').append(x.hards(i)).append(' ');
        }
        for (int i = 0; i < 60; i++) {
            b.append(x.log(i, 0)).append(' ').append(x.log(i, 1)).append(' ').append(x.log(i, 2)).append(' ');
        }
        return b.toString();
    }
}
