import java.math.BigDecimal;
import java.math.BigInteger;
import java.util.ArrayList;
import java.util.Arrays;
import java.util.List;

/**
 * The document once more, in the plainest words of the Java library: a tree for each EXPR, reckoned by
 * recursion, with an exception for a FAULT. Tests hold the program against it.
 */
final class Oracle {
    private static final class Fault extends RuntimeException {
        private static final long serialVersionUID = 1L;
        final int kind;
        final int place;

        Fault(int kind, int place) {
            super(null, null, false, false);
            this.kind = kind;
            this.place = place;
        }
    }

    private static final class Value {
        final BigInteger above;
        final BigInteger below;
        final int[] powers;

        Value(BigInteger above, BigInteger below, int[] powers) {
            BigInteger common = above.gcd(below);
            BigInteger by = below.signum() < 0 ? common.negate() : common;
            this.above = above.divide(by);
            this.below = below.divide(by);
            this.powers = powers;
        }
    }

    private static final class Node {
        final char kind;
        final int place;
        final String text;
        final int number;
        final Node left;
        final Node right;

        Node(char kind, int place, String text, int number, Node left, Node right) {
            this.kind = kind;
            this.place = place;
            this.text = text;
            this.number = number;
            this.left = left;
            this.right = right;
        }
    }

    private static final class Definition {
        String name;
        int sort;
        int base;
        Node expr;
        boolean open;
        Value value;
        Fault fault;
    }

    private final int bits;
    private StringBuilder tape = new StringBuilder();
    private List<Definition> book = new ArrayList<>();
    private Value result = new Value(BigInteger.ZERO, BigInteger.ONE, new int[8]);
    private int fault;
    private int results;

    private String text;
    private int end;
    private int at;
    private int start;
    private String token;
    private int nested;

    Oracle(int bits) {
        this.bits = bits < 16 ? 16 : bits > 512 ? 512 : bits;
    }

    int feed(int... five) {
        if (tape.length() > 3980) {
            return -1;
        }
        for (int number : five) {
            for (int shift = 24; shift >= 0; shift -= 8) {
                tape.append((char) (number >>> shift & 255));
            }
        }
        return tape.length();
    }

    int cut(int n) {
        int size = tape.length();
        if (n < 0 || n > size) {
            return -1;
        }
        tape.setLength(n);
        return size - n;
    }

    int define() {
        List<Definition> before = book;
        book = new ArrayList<>(before);
        String file = takeTape();
        fault = 0;
        try {
            int from = 0;
            for (String line : file.split("\n", -1)) {
                int hash = line.indexOf('#');
                readLine(file, from, from + (hash < 0 ? line.length() : hash));
                from += line.length() + 1;
            }
            int endless = settle();
            if (endless >= 0) {
                throw new Fault(Check.ENDLESS, endless);
            }
            return book.size() - before.size();
        } catch (Fault found) {
            book = before;
            settle();
            fault = found.kind;
            return -10 - found.place;
        }
    }

    int forget(int n) {
        if (n < 0 || n > book.size()) {
            return -1;
        }
        List<Definition> before = book;
        book = new ArrayList<>(before.subList(0, before.size() - n));
        if (settle() >= 0) {
            book = before;
            settle();
            return -1;
        }
        Arrays.fill(result.powers, told(2), 8, 0);
        return book.size();
    }

    int reckon() {
        return answer(false);
    }

    int turn() {
        return answer(true);
    }

    private int answer(boolean turning) {
        try {
            String whole = takeTape();
            open(whole, 0, whole.length());
            Node first = expr();
            Node second = null;
            int place = start;
            if (turning) {
                need(token.equals(">"));
                next();
                second = expr();
            }
            need(token.isEmpty());
            Value value = reckon(first);
            if (turning) {
                Value other = reckon(second);
                same(value, other, place);
                value = divided(value, other, place);
            }
            result = new Value(value.above, value.below, value.powers.clone());
            results++;
            fault = 0;
            return 1;
        } catch (Fault found) {
            fault = found.kind;
            return -10 - found.place;
        }
    }

    int fault() {
        return fault;
    }

    int sign() {
        return result.above.signum();
    }

    int power(int base) {
        return base < 0 || base > 7 ? 0 : result.powers[base];
    }

    private String digitsOf(int part) {
        return (part == 0 ? result.above.abs() : result.below).toString();
    }

    int digits(int part) {
        return part < 0 || part > 1 ? -1 : digitsOf(part).length();
    }

    int digit(int part, int i) {
        if (part < 0 || part > 1 || i < 0 || i >= digitsOf(part).length()) {
            return -1;
        }
        return digitsOf(part).charAt(digitsOf(part).length() - 1 - i) - '0';
    }

    int point(int i) {
        if (i < 1 || i > 300) {
            return -1;
        }
        BigInteger shifted = result.above.abs().multiply(BigInteger.TEN.pow(i)).divide(result.below);
        return shifted.mod(BigInteger.TEN).intValue();
    }

    int ends(int which) {
        BigInteger left = result.below;
        int[] times = new int[2];
        for (int i = 0; i < 2; i++) {
            BigInteger by = BigInteger.valueOf(i == 0 ? 2 : 5);
            while (left.mod(by).signum() == 0) {
                left = left.divide(by);
                times[i]++;
            }
        }
        if (which == 2) {
            return left.equals(BigInteger.ONE) ? 1 : 0;
        }
        return which < 0 || which > 2 ? -1 : times[which];
    }

    int alike(int i) {
        List<Integer> all = new ArrayList<>();
        for (int k = 0; k < book.size(); k++) {
            Definition d = book.get(k);
            if (d.sort != 2 && d.fault == null && Arrays.equals(d.value.powers, result.powers)) {
                all.add(k);
            }
        }
        return i < 0 || i >= all.size() ? -1 : all.get(i);
    }

    int sort(int k) {
        return k < 0 || k >= book.size() ? -1 : book.get(k).sort;
    }

    int faultOf(int k) {
        if (k < 0 || k >= book.size()) {
            return -1;
        }
        return book.get(k).fault == null ? 0 : book.get(k).fault.kind;
    }

    int name(int k, int i) {
        if (k < 0 || k >= book.size() || i < 0 || i >= book.get(k).name.length()) {
            return -1;
        }
        return book.get(k).name.charAt(i);
    }

    int told(int what) {
        switch (what) {
            case 0:
                return tape.length();
            case 1:
                return book.size();
            case 2:
                return (int) book.stream().filter(d -> d.sort == 0).count();
            case 3:
                return bits;
            case 4:
                return results;
            default:
                return -1;
        }
    }

    /** In the form of Run.result. */
    String result() {
        String powers = Arrays.toString(result.powers).replaceAll("[\\[\\] ]", "").replaceFirst("(^0|,0)(,0)*$", "");
        return result.above + "/" + result.below + (powers.isEmpty() ? "" : "*" + powers);
    }

    private String takeTape() {
        String whole = tape.toString();
        tape = new StringBuilder();
        return whole;
    }

    private void readLine(String file, int from, int to) {
        open(file, from, to);
        if (token.isEmpty()) {
            return;
        }
        need(isName());
        Definition d = new Definition();
        d.name = token;
        int place = start;
        boolean prefix = at < end && text.charAt(at) == '-';
        next();
        if (prefix) {
            d.sort = 2;
            next();
            d.expr = expr();
        } else if (token.equals("!")) {
            next();
        } else {
            d.sort = 1;
            d.expr = expr();
        }
        need(token.isEmpty());
        for (Definition other : book) {
            if (other.name.equals(d.name) && (other.sort == 2) == prefix) {
                throw new Fault(Check.TWICE, place);
            }
        }
        d.base = told(2);
        if (book.size() == 100 || d.sort == 0 && d.base == 8) {
            throw new Fault(Check.MUCH, place);
        }
        book.add(d);
    }

    private void need(boolean right) {
        if (!right) {
            throw new Fault(Check.SYNTAX, start);
        }
    }

    private void open(String whole, int from, int to) {
        text = whole;
        at = from;
        end = to;
        nested = 0;
        next();
    }

    /** The token is the text of it, empty at the end, "?" if it is none. */
    private void next() {
        String rest = text.substring(at, end);
        String bare = rest.replaceFirst("^[ \t\r]+", "");
        start = at + rest.length() - bare.length();
        java.util.regex.Matcher m = java.util.regex.Pattern.compile(
            "[a-zA-Z_][a-zA-Z_0-9]*|([0-9]+)(?:\\.([0-9]+))?(?:e[+-]?([0-9]+))?|[-+*/^|()>!]").matcher(bare);
        if (bare.isEmpty()) {
            token = "";
        } else if (m.lookingAt()) {
            token = m.group();
            at = start + token.length();
            if (m.group(1) != null) {
                int ahead = m.group(1).length() + (m.group(2) == null ? 0 : m.group(2).length());
                if (ahead > 60 || m.group(3) != null && m.group(3).length() > 3) {
                    token = "?";
                }
            } else if (token.length() > 24) {
                token = "?";
            }
        } else {
            token = "?";
        }
    }

    private boolean isName() {
        return token.matches("[a-zA-Z_].*");
    }

    private boolean isNumber() {
        return token.matches("[0-9].*");
    }

    private Node expr() {
        boolean minus = token.equals("-");
        int place = start;
        if (minus) {
            next();
        }
        Node sum = term();
        if (minus) {
            sum = new Node('n', place, null, 0, sum, null);
        }
        while (token.equals("+") || token.equals("-")) {
            char kind = token.charAt(0);
            place = start;
            next();
            sum = new Node(kind, place, null, 0, sum, term());
        }
        return sum;
    }

    private Node term() {
        Node product = row();
        while (token.equals("*") || token.equals("/")) {
            char kind = token.charAt(0);
            int place = start;
            next();
            product = new Node(kind, place, null, 0, product, row());
        }
        return product;
    }

    private Node row() {
        Node product = power();
        while (isName() || isNumber() || token.equals("(")) {
            int place = start;
            product = new Node('*', place, null, 0, product, power());
        }
        return product;
    }

    private Node power() {
        Node one = one();
        if (!token.equals("^")) {
            return one;
        }
        int place = start;
        next();
        boolean minus = token.equals("-");
        if (minus) {
            next();
        }
        need(token.matches("0*[0-9]{1,2}"));
        int n = Integer.parseInt(token);
        next();
        return new Node('^', place, null, minus ? -n : n, one, null);
    }

    private Node one() {
        if (isName()) {
            Node name = new Node('a', start, token, 0, null, null);
            next();
            return name;
        }
        if (token.equals("(")) {
            need(nested < 20);
            nested++;
            next();
            Node inner = expr();
            need(token.equals(")"));
            nested--;
            next();
            return inner;
        }
        Node number = number();
        if (token.equals("|")) {
            int place = start;
            next();
            return new Node('/', place, null, 0, number, number());
        }
        return number;
    }

    private Node number() {
        need(isNumber());
        Node number = new Node('1', start, token, 0, null, null);
        next();
        return number;
    }

    /** The least number of an ENDLESS one, or -1. */
    private int settle() {
        int endless = -1;
        for (Definition d : book) {
            d.value = null;
            d.fault = null;
        }
        for (int k = book.size() - 1; k >= 0; k--) {
            settle(book.get(k));
        }
        for (int k = book.size() - 1; k >= 0; k--) {
            if (book.get(k).fault != null && book.get(k).fault.kind == Check.ENDLESS) {
                endless = k;
            }
        }
        return endless;
    }

    private void settle(Definition d) {
        if (d.value != null || d.fault != null) {
            return;
        }
        d.open = true;
        try {
            if (d.sort == 0) {
                int[] powers = new int[8];
                powers[d.base] = 1;
                d.value = new Value(BigInteger.ONE, BigInteger.ONE, powers);
            } else {
                d.value = reckon(d.expr);
            }
        } catch (Fault found) {
            d.fault = found;
        }
        d.open = false;
    }

    private Value valueAt(Definition d, int place) {
        if (d.open) {
            throw new Fault(Check.ENDLESS, place);
        }
        settle(d);
        if (d.fault != null) {
            throw new Fault(d.fault.kind, place);
        }
        return d.value;
    }

    private Definition thing(String name) {
        for (String wanted : new String[] {name, name.length() > 1 ? name.replaceFirst("s$", "") : name}) {
            for (Definition d : book) {
                if (d.sort != 2 && d.name.equals(wanted)) {
                    return d;
                }
            }
        }
        return null;
    }

    private Value named(String name, int place) {
        Definition whole = thing(name);
        if (whole != null) {
            return valueAt(whole, place);
        }
        for (int length = name.length() - 1; length > 0; length--) {
            Definition rest = thing(name.substring(length));
            for (Definition d : book) {
                if (rest != null && d.sort == 2 && d.name.equals(name.substring(0, length))) {
                    Value first = valueAt(d, place);
                    return multiplied(first, valueAt(rest, place), place);
                }
            }
        }
        throw new Fault(Check.UNKNOWN, place);
    }

    private Value reckon(Node node) {
        Value left = node.left == null ? null : reckon(node.left);
        Value right = node.right == null ? null : reckon(node.right);
        switch (node.kind) {
            case 'a':
                return named(node.text, node.place);
            case '1':
                BigDecimal number = new BigDecimal(node.text);
                BigInteger tens = BigInteger.TEN.pow(Math.abs(number.scale()));
                BigInteger digits = number.unscaledValue();
                return number.scale() > 0 ? checked(digits, tens, new int[8], node.place)
                    : checked(digits.multiply(tens), BigInteger.ONE, new int[8], node.place);
            case 'n':
                return new Value(left.above.negate(), left.below, left.powers);
            case '^':
                return raised(left, node.number, node.place);
            case '*':
                return multiplied(left, right, node.place);
            case '/':
                return divided(left, right, node.place);
            default:
                same(left, right, node.place);
                BigInteger more = right.above.multiply(left.below);
                return checked(left.above.multiply(right.below).add(node.kind == '+' ? more : more.negate()),
                    left.below.multiply(right.below), left.powers, node.place);
        }
    }

    private void same(Value left, Value right, int place) {
        if (!Arrays.equals(left.powers, right.powers)) {
            throw new Fault(Check.MIXED, place);
        }
    }

    private Value raised(Value left, int n, int place) {
        if (n < 0 && left.above.signum() == 0) {
            throw new Fault(Check.ZERO, place);
        }
        int[] powers = powers(left.powers, n, left.powers, 0, place);
        BigInteger above = left.above.pow(Math.abs(n));
        BigInteger below = left.below.pow(Math.abs(n));
        return n < 0 ? checked(below, above, powers, place) : checked(above, below, powers, place);
    }

    private Value multiplied(Value left, Value right, int place) {
        return checked(left.above.multiply(right.above), left.below.multiply(right.below),
            powers(left.powers, 1, right.powers, 1, place), place);
    }

    private Value divided(Value left, Value right, int place) {
        if (right.above.signum() == 0) {
            throw new Fault(Check.ZERO, place);
        }
        return checked(left.above.multiply(right.below), left.below.multiply(right.above),
            powers(left.powers, 1, right.powers, -1, place), place);
    }

    private int[] powers(int[] first, int times, int[] second, int otherTimes, int place) {
        int[] sums = new int[8];
        for (int i = 0; i < 8; i++) {
            sums[i] = first[i] * times + second[i] * otherTimes;
            if (Math.abs(sums[i]) > 99) {
                throw new Fault(Check.POWERS, place);
            }
        }
        return sums;
    }

    private Value checked(BigInteger above, BigInteger below, int[] powers, int place) {
        Value value = new Value(above, below, powers);
        if (value.above.abs().bitLength() > bits || value.below.bitLength() > bits) {
            throw new Fault(Check.LARGE, place);
        }
        return value;
    }
}
