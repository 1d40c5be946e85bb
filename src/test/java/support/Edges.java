import java.io.IOException;
import java.nio.charset.StandardCharsets;
import java.nio.file.Files;
import java.nio.file.Paths;

/** What the tests of edges share: the sentence that is tested, calls that are refused and what they leave. */
final class Edges {
    /** Calls on an object, so that they can be made on as many new ones as a test needs. */
    interface Calls {
        void on(NamedCallers x);
    }

    /** One call and its answer; true counts 1, false 0. */
    interface Answer {
        int of(NamedCallers x);
    }

    private static final String DOCUMENT = document();

    private Edges() {
    }

    private static String document() {
        try {
            String text = new String(Files.readAllBytes(Paths.get("../shared/DOC.md")), StandardCharsets.UTF_8);
            return text.replace("```text", " ").replace("```", " ").replaceAll("\\s+", " ");
        } catch (IOException e) {
            throw new IllegalStateException("../shared/DOC.md can't be read: tests run in the project's directory", e);
        }
    }

    private static String between(String from, String to) {
        int start = DOCUMENT.indexOf(from);
        int end = DOCUMENT.indexOf(to, start + 1);
        if (start < 0 || end < 0) {
            throw new IllegalStateException("the document has no part from " + from + " to " + to);
        }
        return DOCUMENT.substring(start, end);
    }

    /** What the document says of a promise, without its heading. */
    static String promise(int number) {
        String section = between("## Promise " + number + ": ", number == 43 ? "## Not promised" : "## Promise " + (number + 1) + ":");
        return section.substring(section.indexOf("`: ") + 3).trim();
    }

    /** The answers behind it are due by these words, which stand in none of the parts below. */
    static void preface(String words) {
        Checks.by("'" + words + "': ");
        Checks.due("the document has these words", between("## What it is", "## Terms").contains(words), true);
    }

    private static String terms(int part) {
        String to = part == 4 ? "## Promise 1:" : "==== " + (part + 1) + ".";
        String whole = DOCUMENT.substring(DOCUMENT.indexOf("## Terms"));
        int start = part == 1 ? 0 : whole.indexOf("==== " + part + ".");
        return whole.substring(start, whole.indexOf(to, start));
    }

    /** The answers behind it are due by these words of the Terms. */
    static void terms(int part, String words) {
        Checks.by("Terms " + part + ", '" + words + "': ");
        Checks.due("the document has these words", terms(part).contains(words), true);
    }

    /** The answers behind it are due by these words of a promise. */
    static void promise(int number, String words) {
        Checks.by("Promise " + number + ", '" + words + "': ");
        Checks.due("the document has these words", promise(number).contains(words), true);
    }

    static NamedCallers after(Calls calls) {
        NamedCallers x = new NamedCallers();
        calls.on(x);
        return x;
    }

    /** The call answers so, and behind it all is as without it. */
    static void leaves(String call, Calls ahead, Answer answer, int want) {
        Checks.due(call, answer.of(after(ahead)), want);
        String with = Portrait.of(x -> {
            ahead.on(x);
            answer.of(x);
        });
        Checks.due(call + " changes nothing", with.equals(Portrait.of(ahead)), true);
    }

    /** GAIN is 198 times so many: two days each time, of five callers with 18 and one with 9. */
    static NamedCallers gained(int times) {
        NamedCallers x = Checks.house("lw9p9;lw0;vn1p0b1w9;vn1p0b1w9;vn1p0b1w9;vn1p0b1w9;vn1p0b1w9;vn1p0b1w9l1");
        Checks.tell(x, 2, "c0;c1;c2;c3;c4;c5;d;c0;c1;c2;c3;c4;c5;d");
        for (int i = 0; i < times; i++) {
            x.perform(0);
        }
        return x;
    }

    static int bit(boolean answer) {
        return answer ? 1 : 0;
    }

    /** So often the same text. */
    static String times(int n, String text) {
        StringBuilder b = new StringBuilder();
        for (int i = 0; i < n; i++) {
            b.append(text);
        }
        return b.toString();
    }

    /** So often the same text, with ; between. */
    static String row(int n, String text) {
        String all = times(n, ";" + text);
        return all.isEmpty() ? all : all.substring(1);
    }
}
