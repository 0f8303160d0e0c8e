import java.util.Random;

/** Makes texts: hedges that are mostly as they must be, and others with a flaw somewhere. */
final class RandomTexts {
    private static final String[] NAMES = {"a", "b", "c", "dd", "elder", "abcdefgh", "stakess", "lif", "z"};
    private static final String[] PIECES = {";", "(", ")", "<", ">", "=", "+", "-", "*", "/", "%", " ", "\n", "stakes",
        "plant", "life", "hardy", "topic", "bill", "of", "at", "says", "amends", "repeals", "party", "wants", "by", "grow",
        "frost", "draw", "or", "and", "not", "age", "stake", "near", "year", "0", "1", "9", "10", "12", "13", "99", "100",
        "101", "999", "1000", "9999", "12345", "7x", "a", "b", "zz", "abcdefgh", "abcdefghi", "$", "\t", "A", "\u00e9",
        "\u0000"};
    private final Random random;

    RandomTexts(Random random) {
        this.random = random;
    }

    private int below(int n) {
        return random.nextInt(n);
    }

    private String pick(String[] from, int most) {
        return from[below(Math.min(from.length, most))];
    }

    private String gap() {
        return below(8) == 0 ? (below(2) == 0 ? "\n" : "  ") : " ";
    }

    /** A hedge as it must be. */
    String good() {
        StringBuilder s = new StringBuilder();
        int stakes = 8;
        if (below(3) > 0) {
            stakes = 2 + below(11);
            s.append("stakes").append(gap()).append(stakes).append(";");
        }
        int plants = 1 + below(4);
        for (int i = 0; i < plants; i++) {
            s.append("plant ").append(NAMES[i]).append(gap()).append("life ").append(1 + below(below(2) == 0 ? 8 : 99));
            s.append(below(2) == 0 ? " hardy" : "").append(";");
        }
        int topics = 1 + below(4);
        for (int i = 0; i < topics; i++) {
            s.append("topic ").append(NAMES[i]).append(";");
        }
        bills(s, stakes, plants, topics);
        wants(s, topics);
        if (below(4) > 0) {
            s.append("grow ").append(below(3) == 0 ? "1-near" : formula(3)).append(";");
        }
        if (below(3) > 0) {
            s.append("frost ").append(below(101)).append(" of ").append(1 + below(below(2) == 0 ? 4 : 99)).append(";");
        }
        if (below(2) == 0) {
            s.append("draw ").append(below(1000)).append(";");
        }
        return s.length() <= 1600 ? s.toString() : "topic a;";
    }

    private void bills(StringBuilder s, int stakes, int plants, int topics) {
        int bills = below(9);
        for (int i = 0; i < bills; i++) {
            s.append("bill ").append(NAMES[i]).append(" of ").append(NAMES[below(plants)]).append(" at").append(gap());
            s.append(below(stakes));
            if (below(6) > 0) {
                s.append(" says ").append(NAMES[below(Math.min(topics, 1 + below(4)))]).append(below(2) == 0 ? "-" : " ");
                s.append(below(10));
            }
            if (i > 0 && below(4) == 0) {
                s.append(" amends ").append(NAMES[below(i)]);
            }
            if (i > 0 && below(5) == 0) {
                s.append(" repeals ").append(NAMES[below(i)]);
            }
            s.append(gap()).append(";");
        }
    }

    private void wants(StringBuilder s, int topics) {
        int parties = below(4);
        for (int i = 0; i < parties; i++) {
            s.append("party ").append(NAMES[i]).append(";");
            for (int t = 0; t < topics; t++) {
                if (below(3) > 0) {
                    s.append("wants ").append(NAMES[i]).append(gap()).append(NAMES[t]).append(below(2) == 0 ? " - " : " ");
                    s.append(below(10)).append(" by ").append(1 + below(9)).append(";");
                }
            }
        }
    }

    /** A formula; small ones keep below the limits, deep ones go over them now and then. */
    String formula(int depth) {
        int kind = depth == 0 ? 0 : below(10);
        switch (kind) {
            case 0:
            case 1:
                return pick(new String[] {"life", "age", "stake", "near", "year", "0", "1", "2", "3", "9999"}, 10);
            case 2:
                return "(" + formula(depth - 1) + ")";
            case 3:
                return "(not " + formula(depth - 1) + ")";
            case 4:
                return "not not " + formula(depth - 1);
            case 5:
                return "(" + formula(depth - 1) + pick(new String[] {" or ", " and "}, 2) + formula(depth - 1) + ")";
            case 6:
                return "(" + formula(depth - 1) + pick(new String[] {"<", ">", "="}, 3) + formula(depth - 1) + ")";
            default:
                return formula(depth - 1) + pick(new String[] {"+", "-", " * ", "/", "%", "-"}, 6) + formula(depth - 1);
        }
    }

    /** A hedge with some pieces changed. */
    String flawed() {
        StringBuilder s = new StringBuilder(below(5) == 0 ? "grow " + formula(6) + ";" : good());
        for (int n = 1 + below(3); n > 0 && s.length() > 0; n--) {
            int at = below(s.length());
            switch (below(5)) {
                case 0:
                    s.deleteCharAt(at);
                    break;
                case 1:
                    s.setLength(at);
                    break;
                case 2:
                    s.insert(at, pick(PIECES, PIECES.length));
                    break;
                case 3:
                    int to = Math.min(s.length(), at + 1 + below(6));
                    s.replace(at, to, pick(PIECES, PIECES.length));
                    break;
                default:
                    int from = s.lastIndexOf(";", at) + 1;
                    int until = s.indexOf(";", at) + 1;
                    if (until > from) {
                        s.insert(below(2) == 0 ? until : 0, s.substring(from, until));
                    }
            }
        }
        s.setLength(Math.min(s.length(), 1600));
        return s.toString();
    }

    /** Pieces put behind one another. */
    String heap() {
        StringBuilder s = new StringBuilder();
        for (int n = below(30); n > 0; n--) {
            s.append(pick(PIECES, PIECES.length)).append(below(3) == 0 ? "" : " ");
        }
        return s.toString();
    }
}
