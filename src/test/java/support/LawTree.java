import java.util.ArrayList;
import java.util.List;
import java.util.Random;

/** A LAW grown at random as a tree, with its text and its worth: nothing is ever read from a text here. */
final class LawTree {
    private final Random random;
    private final List<Node> conditions = new ArrayList<>();
    private final List<Node> sums = new ArrayList<>();

    /** A sign with its parts; a number or a letter without. */
    private record Node(char sign, int value, Node left, Node right) {
    }

    LawTree(Random random, int clauses) {
        this.random = random;
        for (int i = 0; i < clauses; i++) {
            conditions.add(random.nextInt(4) == 0 ? null : condition(random.nextInt(4)));
            sums.add(sum(random.nextInt(4)));
        }
    }

    private Node sum(int depth) {
        if (depth == 0) {
            return random.nextBoolean() ? new Node('#', number(), null, null) : new Node('a', random.nextInt(6), null, null);
        }
        char sign = "+-*/".charAt(random.nextInt(4));
        return new Node(sign, 0, sum(random.nextInt(depth)), sum(random.nextInt(depth)));
    }

    private int number() {
        return random.nextInt(8) == 0 ? random.nextInt(10000) : random.nextInt(12);
    }

    private Node condition(int depth) {
        if (depth == 0) {
            return new Node("=<>".charAt(random.nextInt(3)), 0, sum(random.nextInt(2)), sum(random.nextInt(2)));
        }
        char sign = "&|!".charAt(random.nextInt(3));
        return new Node(sign, 0, condition(random.nextInt(depth)), sign == '!' ? null : condition(random.nextInt(depth)));
    }

    String text() {
        StringBuilder b = new StringBuilder();
        for (int i = 0; i < sums.size(); i++) {
            b.append(i > 0 ? ";" : "").append("y:");
            if (conditions.get(i) != null) {
                b.append(write(conditions.get(i), 0)).append('?');
            }
            b.append(write(sums.get(i), 3));
        }
        return b.toString();
    }

    private static int rank(Node n) {
        switch (n.sign) {
            case '|':
                return 0;
            case '&':
                return 1;
            case '!':
            case '=':
            case '<':
            case '>':
                return 2;
            case '+':
            case '-':
                return 3;
            case '*':
            case '/':
                return 4;
            default:
                return 5;
        }
    }

    private static String write(Node n, int least) {
        int rank = rank(n);
        String text;
        switch (n.sign) {
            case '#':
                text = Integer.toString(n.value);
                break;
            case 'a':
                text = "nptgsd".substring(n.value, n.value + 1);
                break;
            case '!':
                text = "!" + write(n.left, 2);
                break;
            default:
                boolean compares = rank == 2;
                text = write(n.left, compares ? 3 : rank) + n.sign + write(n.right, compares ? 3 : rank + 1);
        }
        if (rank >= least) {
            return text;
        }
        return rank <= 2 ? "(" + text + ")" : "[" + text + "]";
    }

    int worth(int[] letters) {
        for (int i = 0; i < sums.size(); i++) {
            if (conditions.get(i) == null || holds(conditions.get(i), letters)) {
                return (int) value(sums.get(i), letters);
            }
        }
        return 0;
    }

    private static boolean holds(Node n, int[] letters) {
        switch (n.sign) {
            case '!':
                return !holds(n.left, letters);
            case '&':
                return holds(n.left, letters) && holds(n.right, letters);
            case '|':
                return holds(n.left, letters) || holds(n.right, letters);
            case '=':
                return value(n.left, letters) == value(n.right, letters);
            case '<':
                return value(n.left, letters) < value(n.right, letters);
            default:
                return value(n.left, letters) > value(n.right, letters);
        }
    }

    private static long value(Node n, int[] letters) {
        if (n.sign == '#') {
            return n.value;
        }
        if (n.sign == 'a') {
            return letters[n.value];
        }
        long a = value(n.left, letters);
        long b = value(n.right, letters);
        long r = n.sign == '+' ? a + b : n.sign == '-' ? a - b : n.sign == '*' ? a * b : b == 0 ? 0 : a / b;
        return Math.max(-1000000L, Math.min(1000000L, r));
    }
}
