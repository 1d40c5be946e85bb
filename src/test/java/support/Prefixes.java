import java.util.regex.Matcher;
import java.util.regex.Pattern;

/** FAULTS of HOUSES and AFTERNOONS as the document defines them: by the first beginning of a text with which none can go on. */
final class Prefixes {
    private static final Pattern CLAUSE = clauses("(?: *L *\\d\\d?)* *");
    private static final Pattern BEGUN_CLAUSE = Pattern.compile(" *|" + clauses("(?: *L *\\d\\d?)*(?: *| *L *)").pattern());
    private static final Pattern ITEM = Pattern.compile("([a-z]) *(\\d*)");
    private static final Pattern STEPS = steps("(?:[cth] *\\d|[gd]) *");
    private static final Pattern BEGUN_STEPS = steps("(?:[cth] *\\d? *|[gd] *)?");

    private Prefixes() {
    }

    /** L stands for a letter of the clause. */
    private static Pattern clauses(String items) {
        return Pattern.compile(" *s" + items.replace("L", "[thc]") + "| *l" + items.replace("L", "[wp]")
            + "| *v" + items.replace("L", "[nptbwla]"));
    }

    private static Pattern steps(String last) {
        return Pattern.compile("(?: *(?:[cth] *\\d|[gd]) *;){0,15} *" + last);
    }

    static int ofAfternoon(String text) {
        for (int end = 1; end <= text.length(); end++) {
            if (!BEGUN_STEPS.matcher(text.substring(0, end)).matches()) {
                return end - 1;
            }
        }
        return STEPS.matcher(text).matches() ? -1 : text.length();
    }

    static int ofHouse(String text) {
        for (int end = 1; end <= text.length(); end++) {
            boolean digitFollows = end < text.length() && text.charAt(end) >= '0' && text.charAt(end) <= '9';
            if (!houseGoesOn(text.substring(0, end), digitFollows)) {
                return end - 1;
            }
        }
        return isHouse(text) ? -1 : text.length();
    }

    private static boolean houseGoesOn(String begun, boolean digitFollows) {
        String[] clauses = begun.split(";", -1);
        int[] kinds = new int[3];
        for (int i = 0; i < clauses.length; i++) {
            boolean last = i == clauses.length - 1;
            if (!(last ? BEGUN_CLAUSE : CLAUSE).matcher(clauses[i]).matches() || !itemsGoOn(clauses[i], last && digitFollows)) {
                return false;
            }
            if (!clauses[i].isBlank()) {
                kinds["slv".indexOf(clauses[i].trim().charAt(0))]++;
            }
        }
        return kinds[0] <= 1 && kinds[1] <= 4 && kinds[2] <= 6;
    }

    private static boolean itemsGoOn(String clause, boolean digitFollows) {
        String trimmed = clause.trim();
        Matcher item = ITEM.matcher(trimmed);
        String seen = "";
        for (int from = 1; from < trimmed.length() && item.find(from); from = item.end()) {
            if (seen.contains(item.group(1))) {
                return false;
            }
            seen += item.group(1);
            // A number is out of bounds only when all its digits are there.
            boolean whole = !item.group(2).isEmpty() && !(digitFollows && item.end() == trimmed.length());
            if (whole && outOfBounds(trimmed.charAt(0) + item.group(1), Integer.parseInt(item.group(2)))) {
                return false;
            }
        }
        return true;
    }

    private static boolean outOfBounds(String item, int value) {
        switch (item) {
            case "st":
                return value < 1 || value > 99;
            case "vb":
                return value < 1 || value > 30;
            case "vn":
                return value < 1 || value > 9;
            case "vp":
                return value > 5;
            case "vt":
            case "vl":
                return value > 3;
            case "sc":
            case "va":
                return value > 99;
            default:
                return value > 9;
        }
    }

    private static boolean isHouse(String text) {
        int lodgers = 0;
        int callers = 0;
        int wanted = 0;
        for (String clause : text.split(";", -1)) {
            if (!CLAUSE.matcher(clause).matches()) {
                return false;
            }
            lodgers += clause.trim().charAt(0) == 'l' ? 1 : 0;
            callers += clause.trim().charAt(0) == 'v' ? 1 : 0;
            Matcher whose = Pattern.compile("v.*l *(\\d+).*").matcher(clause.trim());
            wanted = whose.matches() ? Math.max(wanted, Integer.parseInt(whose.group(1))) : wanted;
        }
        return callers > 0 && lodgers > wanted;
    }
}
