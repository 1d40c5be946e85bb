import java.util.Random;

/** Laws at random: their faults by another reader, their worths by the trees that they were grown from. */
public final class LawTest {
    private static final String SIGNS = "y:;?|&!()=<>+-*/[]nptgsd0123456789 x";

    public static void main(String[] args) {
        Random random = new Random(20261118);
        for (int i = 0; i < 6000; i++) {
            LawTree tree = new LawTree(random, 1 + random.nextInt(3));
            String text = spaced(random, tree.text());
            if (text.length() <= 240) {
                broken(random, text);
                worths(random, tree, text);
            }
        }
        for (int i = 0; i < 6000; i++) {
            faultOf(nested(random));
        }
        Checks.finish();
    }

    private static String spaced(Random random, String text) {
        StringBuilder b = new StringBuilder();
        for (int i = 0; i < text.length(); i++) {
            boolean within = i > 0 && Character.isDigit(text.charAt(i)) && Character.isDigit(text.charAt(i - 1));
            if (!within && random.nextInt(8) == 0) {
                b.append(' ');
            }
            b.append(text.charAt(i));
        }
        return b.toString();
    }

    private static void faultOf(String text) {
        NamedCallers x = new NamedCallers();
        Checks.tape(x, text);
        Checks.due("fault(1) of '" + text + "'", x.fault(1), LawSigns.fault(text));
    }

    private static void broken(Random random, String text) {
        int at = random.nextInt(text.length());
        String sign = SIGNS.substring(random.nextInt(SIGNS.length())).substring(0, 1);
        faultOf(text);
        faultOf(text.substring(0, at));
        faultOf(text.substring(0, at) + text.substring(at + 1));
        faultOf(text.substring(0, at) + sign + text.substring(at + 1));
        if (text.length() < 240) {
            faultOf(text.substring(0, at) + sign + text.substring(at));
        }
    }

    private static String nested(Random random) {
        StringBuilder b = new StringBuilder("y:");
        int signs = 4 + random.nextInt(12);
        for (int i = 0; i < signs; i++) {
            b.append("!([!([n)]=1&|".charAt(random.nextInt(13)));
        }
        return b.append("n=1?1").toString();
    }

    private static void worths(Random random, LawTree tree, String text) {
        NamedCallers x = new NamedCallers();
        int n = 1 + random.nextInt(9);
        int p = random.nextInt(6);
        int t = random.nextInt(4);
        Checks.tell(x, 0, "st99;lp9;vn" + n + "p" + p + "t" + t + ";v;v;v");
        Checks.due("law '" + text + "'", Checks.tell(x, 1, text), 0);
        for (int d = random.nextInt(3); d > 0; d--) {
            x.day();
        }
        for (int i = random.nextInt(4); i > 0; i--) {
            x.announce(i);
        }
        if (random.nextBoolean()) {
            x.sing();
        }
        x.law(0);
        int[] letters = {n, p, t, x.count(8), x.count(9), x.count(6)};
        int want = Math.max(1, Math.min(60, tree.worth(letters)));
        Checks.due("name by '" + text + "'", x.name(0, 0), want);
    }
}
