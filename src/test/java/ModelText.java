import java.nio.charset.StandardCharsets;
import java.util.ArrayList;
import java.util.List;
import java.util.regex.Matcher;
import java.util.regex.Pattern;

/** The model's reader: a regular expression for what comes next, an exception for the first fault. */
final class ModelText {
    private static final Pattern NEXT = Pattern.compile("[ \n]*(?:([a-z]+)|([0-9]+)|([^a-z0-9 \n])|$)", Pattern.DOTALL);
    private static final List<String> OWN = List.of(("town cart to days holds of writes likes worth encl lost held far day"
        + " sent got if or and not all min max").split(" "));

    /** A rule for held, far, day, sent, got. */
    interface Rule {
        long of(long[] facts);
    }

    private static final class Fault extends RuntimeException {
        private static final long serialVersionUID = 1;
        private final int kind;
        private final int place;

        private Fault(int kind, int place) {
            this.kind = kind;
            this.place = place;
        }
    }

    final List<String> names = new ArrayList<>();
    final int[][] carts = new int[6][6];
    final int[][] holds = new int[6][6];
    int cartsTold = 0;
    int statements = 0;
    int encl = 1;
    int lost = 0;
    Rule writes = null;
    Rule likes = null;
    Rule worth = null;
    int fault = 0;
    int place = -1;

    private final String text;
    private int at = 0;
    private String next = "";
    private int start = 0;
    private int open = 0;
    private boolean inWorth = false;

    ModelText(byte[] bytes) {
        text = new String(bytes, StandardCharsets.ISO_8859_1);
    }

    void read() {
        try {
            step();
            while (!next.isEmpty()) {
                if (statements == 80) {
                    throw new Fault(6, start);
                }
                statement();
                sign(";");
                statements++;
            }
        } catch (Fault first) {
            fault = first.kind;
            place = first.place;
        }
    }

    /** The next word, number or sign; "" at the end; a number sign and the place for one that is wrong in itself. */
    private void step() {
        Matcher matcher = NEXT.matcher(text);
        matcher.region(at, text.length());
        matcher.lookingAt();
        String word = matcher.group(1);
        String number = matcher.group(2);
        boolean glued = at > 0 && String.valueOf(text.charAt(at - 1)).matches("[a-z0-9]");
        start = word != null ? matcher.start(1) : number != null ? matcher.start(2) : matcher.start(3);
        next = word != null ? word : number != null ? number : matcher.group(3);
        if (next == null) {
            next = "";
            start = text.length();
        }
        int most = word != null ? 6 : number != null ? 4 : 1;
        if ((word != null || number != null) && glued && start == at) {
            next = "#" + start;
        } else if (next.length() > most) {
            next = "#" + (start + most);
        }
        at = matcher.end();
    }

    private Fault wrong() {
        return new Fault(1, next.length() > 1 && next.charAt(0) == '#' ? Integer.parseInt(next.substring(1)) : start);
    }

    private boolean sees(String... these) {
        return List.of(these).contains(next);
    }

    private void sign(String wanted) {
        if (!next.equals(wanted)) {
            throw wrong();
        }
        step();
    }

    private boolean isNumber() {
        return !next.isEmpty() && next.charAt(0) >= '0' && next.charAt(0) <= '9';
    }

    private String name() {
        if (next.isEmpty() || next.charAt(0) < 'a' || next.charAt(0) > 'z' || OWN.contains(next)) {
            throw wrong();
        }
        return next;
    }

    private int town() {
        int town = names.indexOf(name());
        if (town < 0) {
            throw new Fault(3, start);
        }
        return town;
    }

    private int number(int least, int most) {
        if (!isNumber()) {
            throw wrong();
        }
        int number = Integer.parseInt(next);
        if (number < least || number > most) {
            throw new Fault(4, start);
        }
        step();
        return number;
    }

    private void only(boolean free) {
        if (!free) {
            throw new Fault(6, start);
        }
        step();
    }

    private void statement() {
        switch (next) {
            case "town" -> {
                only(names.size() < 6);
                if (names.contains(name())) {
                    throw new Fault(2, start);
                }
                names.add(next);
                step();
            }
            case "cart" -> {
                only(cartsTold < 12);
                int from = town();
                step();
                sign("to");
                int to = town();
                if (from == to || carts[from][to] > 0) {
                    throw new Fault(3, start);
                }
                step();
                sign("days");
                carts[from][to] = number(1, 9);
                carts[to][from] = carts[from][to];
                cartsTold++;
            }
            case "holds" -> {
                step();
                int town = town();
                step();
                sign("of");
                int other = town();
                if (town == other) {
                    throw new Fault(3, start);
                }
                step();
                holds[town][other] = number(0, 20);
            }
            case "writes" -> {
                only(writes == null);
                inWorth = false;
                writes = test();
            }
            case "likes" -> {
                only(likes == null);
                inWorth = false;
                likes = sum();
            }
            case "worth" -> {
                only(worth == null);
                inWorth = true;
                worth = sum();
            }
            case "encl" -> {
                step();
                encl = number(0, 3);
            }
            case "lost" -> {
                step();
                lost = number(0, 100);
            }
            default -> throw wrong();
        }
    }

    private Rule test() {
        Rule left = both();
        while (sees("or")) {
            step();
            Rule a = left;
            Rule b = both();
            left = f -> a.of(f) != 0 || b.of(f) != 0 ? 1 : 0;
        }
        return left;
    }

    private Rule both() {
        Rule left = fact();
        while (sees("and")) {
            step();
            Rule a = left;
            Rule b = fact();
            left = f -> a.of(f) != 0 && b.of(f) != 0 ? 1 : 0;
        }
        return left;
    }

    private void opens() {
        if (open == 7) {
            throw new Fault(5, start);
        }
        open++;
        step();
    }

    private void closes(String sign) {
        sign(sign);
        open--;
    }

    private Rule fact() {
        if (sees("not")) {
            opens();
            Rule denied = fact();
            open--;
            return f -> denied.of(f) == 0 ? 1 : 0;
        }
        if (sees("[")) {
            opens();
            Rule inside = test();
            closes("]");
            return inside;
        }
        if (sees("all")) {
            step();
            return f -> 1;
        }
        Rule a = sum();
        String sign = next;
        if (!sees("<", ">", "=")) {
            throw wrong();
        }
        step();
        Rule b = sum();
        return f -> {
            int order = Long.compare(a.of(f), b.of(f));
            return (sign.equals("<") ? order < 0 : sign.equals(">") ? order > 0 : order == 0) ? 1 : 0;
        };
    }

    private static long bounded(long number) {
        return number > 1000000 ? 1000000 : number < -1000000 ? -1000000 : number;
    }

    private static long whole(long a, long b) {
        return (long) Math.floor((double) a / b);
    }

    private Rule sum() {
        Rule left = product();
        while (sees("+", "-")) {
            long times = next.equals("+") ? 1 : -1;
            step();
            Rule a = left;
            Rule b = product();
            left = f -> bounded(a.of(f) + times * b.of(f));
        }
        return left;
    }

    private Rule product() {
        Rule left = part();
        while (sees("*", "/", "%")) {
            String sign = next;
            step();
            Rule a = left;
            Rule b = part();
            left = f -> {
                long x = a.of(f);
                long y = b.of(f);
                if (sign.equals("*")) {
                    return bounded(x * y);
                }
                if (y == 0) {
                    return 0;
                }
                return sign.equals("/") ? whole(x, y) : x - y * whole(x, y);
            };
        }
        return left;
    }

    private Rule part() {
        if (isNumber()) {
            long number = number(0, 9999);
            return f -> number;
        }
        int fact = List.of("held", "far", "day", "sent", "got").indexOf(next);
        if (fact >= 0 && !(inWorth && fact >= 3)) {
            step();
            return f -> f[fact];
        }
        if (sees("(")) {
            opens();
            Rule inside = sum();
            closes(")");
            return inside;
        }
        if (!sees("min", "max", "if")) {
            throw wrong();
        }
        String word = next;
        step();
        if (!sees("(")) {
            throw wrong();
        }
        opens();
        Rule asked = word.equals("if") ? test() : null;
        if (asked != null) {
            sign(",");
        }
        Rule a = sum();
        sign(",");
        Rule b = sum();
        closes(")");
        if (asked != null) {
            return f -> asked.of(f) != 0 ? a.of(f) : b.of(f);
        }
        return word.equals("min") ? f -> Math.min(a.of(f), b.of(f)) : f -> Math.max(a.of(f), b.of(f));
    }
}
