import java.util.Random;

/** Houses and afternoons at random, whole and broken: their faults by another reader, which goes by beginnings of the text. */
public final class FaultTest {
    private static final String SIGNS = "slv;thcwpnbadgx 0123456789";
    private static final String[] LETTERS = {"thc", "wp", "nptbwla"};
    private static final String[] STEPS = {"c0", "c9", "t5", "t0", "g", "h3", "h0", "d"};

    private final Random random = new Random(20261118);

    private FaultTest() {
    }

    public static void main(String[] args) {
        FaultTest test = new FaultTest();
        for (int i = 0; i < 4000; i++) {
            test.broken(0, test.spaced(test.house()));
            test.broken(2, test.spaced(test.afternoon()));
        }
        Checks.finish();
    }

    /** In most of them something is wrong already: a number, a letter, a clause too many, a lodger that is not told. */
    private String house() {
        StringBuilder b = new StringBuilder();
        int clauses = 2 + random.nextInt(11);
        for (int i = 0; i < clauses; i++) {
            int kind = random.nextInt(11);
            b.append(i == 0 ? "" : ";").append(clause(i == 0 || kind < 4 ? 1 : kind < 5 ? 0 : 2));
        }
        return b.toString();
    }

    private String clause(int kind) {
        StringBuilder b = new StringBuilder().append("slv".charAt(kind));
        String letters = LETTERS[kind];
        int from = random.nextInt(letters.length());
        int items = random.nextInt(letters.length() + 1);
        for (int i = 0; i < items; i++) {
            int which = random.nextInt(60) == 0 ? random.nextInt(letters.length()) : (from + i) % letters.length();
            b.append(letters.charAt(which)).append(number());
        }
        return b.toString();
    }

    private String number() {
        int value = random.nextInt(random.nextInt(25) == 0 ? 130 : random.nextInt(8) == 0 ? 12 : 4);
        return (random.nextInt(12) == 0 ? "0" : "") + Math.max(value, random.nextInt(15) == 0 ? 0 : 1);
    }

    private String afternoon() {
        StringBuilder b = new StringBuilder();
        int steps = 1 + random.nextInt(18);
        for (int i = 0; i < steps; i++) {
            b.append(i == 0 ? "" : ";").append(STEPS[random.nextInt(STEPS.length)]);
        }
        return b.toString();
    }

    private String spaced(String text) {
        StringBuilder b = new StringBuilder();
        for (int i = 0; i < text.length(); i++) {
            b.append(random.nextInt(25) == 0 ? " " : "").append(text.charAt(i));
        }
        return b.append(random.nextInt(8) == 0 ? " " : "").toString();
    }

    private void broken(int sort, String text) {
        int at = random.nextInt(text.length());
        String sign = SIGNS.substring(random.nextInt(SIGNS.length())).substring(0, 1);
        faultOf(sort, text);
        faultOf(sort, text.substring(0, at));
        faultOf(sort, text.substring(0, at) + text.substring(at + 1));
        faultOf(sort, text.substring(0, at) + sign + text.substring(at + 1));
        faultOf(sort, text.substring(0, at) + sign + text.substring(at));
    }

    private static void faultOf(int sort, String text) {
        if (text.length() <= 240) {
            Checks.fault(sort, text, sort == 0 ? Prefixes.ofHouse(text) : Prefixes.ofAfternoon(text));
        }
    }
}
