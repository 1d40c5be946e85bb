import java.util.ArrayDeque;
import java.util.Deque;

/** The FAULT of a LAW sign by sign with a stack of what is open, a way unlike the one of the class. */
final class LawSigns {
    /** What is open: a clause (C), a group ( or [; where its unit stands, and how many ! lie on it. */
    private static final class Open {
        final char sign;
        boolean condition;
        boolean answer;
        boolean compared;
        boolean grouped;
        boolean fresh = true;
        int nots;

        Open(char sign) {
            this.sign = sign;
            condition = sign == '(';
        }

        void startUnit() {
            compared = false;
            grouped = false;
            fresh = true;
            nots = 0;
        }

        boolean unitWhole() {
            return condition && (compared || grouped);
        }
    }

    private LawSigns() {
    }

    static int fault(String text) {
        Deque<Open> open = new ArrayDeque<>();
        // 0: y is due, 1: : is due, 2: an operand is due, 3: behind an operand
        int place = 0;
        int at = 0;
        while (true) {
            while (at < text.length() && text.charAt(at) == ' ') {
                at++;
            }
            if (at == text.length()) {
                return place == 3 && mayEnd(open) ? -1 : at;
            }
            char sign = text.charAt(at);
            if (place < 2) {
                if (sign != "y:".charAt(place)) {
                    return at;
                }
                place++;
                if (place == 2) {
                    open.clear();
                    open.push(new Open('C'));
                }
            } else if (place == 2 && Character.isDigit(sign) && sign < 128) {
                int end = at;
                while (end < text.length() && text.charAt(end) >= '0' && text.charAt(end) <= '9') {
                    end++;
                }
                if (end - at > 4) {
                    return at + 4;
                }
                at = end - 1;
                open.peek().fresh = false;
                place = 3;
            } else if (place == 2) {
                if (!operand(open, sign)) {
                    return at;
                }
                place = "nptgsd".indexOf(sign) >= 0 ? 3 : 2;
            } else {
                place = behind(open, sign);
                if (place < 0) {
                    return at;
                }
            }
            at++;
        }
    }

    private static int depth(Deque<Open> open) {
        int depth = -1;
        for (Open o : open) {
            depth += 1 + o.nots;
        }
        return depth;
    }

    private static boolean operand(Deque<Open> open, char sign) {
        Open top = open.peek();
        if ("nptgsd".indexOf(sign) >= 0) {
            top.fresh = false;
            return true;
        }
        if ("([!".indexOf(sign) < 0 || depth(open) >= 6) {
            return false;
        }
        if (sign == '[') {
            top.fresh = false;
            open.push(new Open('['));
            return true;
        }
        if (!top.fresh || top.sign == '[' || top.answer) {
            return false;
        }
        top.condition = true;
        if (sign == '!') {
            top.nots++;
        } else {
            top.fresh = false;
            open.push(new Open('('));
        }
        return true;
    }

    private static boolean mayEnd(Deque<Open> open) {
        return open.size() == 1 && (open.peek().answer || !open.peek().condition);
    }

    private static int behind(Deque<Open> open, char sign) {
        Open top = open.peek();
        switch (sign) {
            case '+':
            case '-':
            case '*':
            case '/':
                return top.grouped ? -1 : 2;
            case ']':
                if (top.sign != '[') {
                    return -1;
                }
                open.pop();
                return 3;
            case '=':
            case '<':
            case '>':
                if (top.sign == '[' || top.answer || top.compared || top.grouped) {
                    return -1;
                }
                top.condition = true;
                top.compared = true;
                return 2;
            case '&':
            case '|':
                if (top.sign == '[' || top.answer || !top.unitWhole()) {
                    return -1;
                }
                top.startUnit();
                return 2;
            case ')':
                if (top.sign != '(' || !top.unitWhole()) {
                    return -1;
                }
                open.pop();
                open.peek().grouped = true;
                return 3;
            case '?':
                if (top.sign != 'C' || top.answer || !top.unitWhole()) {
                    return -1;
                }
                top.startUnit();
                top.fresh = false;
                top.answer = true;
                return 2;
            case ';':
                return mayEnd(open) ? 0 : -1;
            default:
                return -1;
        }
    }
}
