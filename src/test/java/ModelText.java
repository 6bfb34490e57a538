import java.util.ArrayList;
import java.util.List;
import java.util.function.IntPredicate;
import java.util.function.IntUnaryOperator;

/** The texts of the document a second time: all tokens first, then rules that throw at the first wrong one. */
final class ModelText {
    static final class Wrong extends Exception {
        private static final long serialVersionUID = 1;
        final int code;
        final int at;

        Wrong(int code, int at) {
            this.code = code;
            this.at = at;
        }
    }

    private static final class Token {
        String text;
        int at;

        boolean number() { return !text.isEmpty() && Character.isDigit(text.charAt(0)); }
    }

    private final List<Token> tokens = new ArrayList<>();
    private int next;
    private int open;

    ModelText(List<Integer> bytes) {
        StringBuilder all = new StringBuilder();
        for (int b : bytes) all.append((char) b);
        String text = all.toString();
        int i = 0;
        while (i < text.length()) {
            int from = i;
            if (" \n".indexOf(text.charAt(i)) >= 0) {
                i++;
                continue;
            }
            if (letter(text.charAt(i))) {
                while (i < text.length() && letter(text.charAt(i))) i++;
            } else if (digit(text.charAt(i))) {
                while (i < text.length() && digit(text.charAt(i))) i++;
            } else {
                i++;
            }
            add(text.substring(from, i), from);
        }
        add("", text.length());
    }

    private static boolean letter(char c) { return "abcdefghijklmnopqrstuvwxyz".indexOf(c) >= 0; }

    private static boolean digit(char c) { return "0123456789".indexOf(c) >= 0; }

    private void add(String text, int at) {
        Token t = new Token();
        t.text = text;
        t.at = at;
        tokens.add(t);
    }

    private Token here() { return tokens.get(next); }

    private boolean is(String text) { return here().text.equals(text); }

    private boolean accept(String text) {
        if (!is(text)) return false;
        next++;
        return true;
    }

    private void expect(String text) throws Wrong {
        if (!accept(text)) throw new Wrong(1, here().at);
    }

    private int number(int least, int most) throws Wrong {
        if (!here().number()) throw new Wrong(1, here().at);
        java.math.BigInteger n = new java.math.BigInteger(here().text);
        if (n.compareTo(java.math.BigInteger.valueOf(least)) < 0
                || n.compareTo(java.math.BigInteger.valueOf(most)) > 0) {
            throw new Wrong(2, here().at);
        }
        next++;
        return n.intValue();
    }

    Model.State bath() throws Wrong {
        expect("bath");
        int w = number(3, 10);
        int h = number(3, 10);
        Model.State s = new Model.State(w, h);
        if (accept("level")) s.level = number(0, 1000);
        if (accept("push")) s.push = number(0, 9);
        if (accept("wind")) {
            s.windX = (accept("-") ? -1 : 1) * number(0, 99);
            s.windY = (accept("-") ? -1 : 1) * number(0, 99);
        }
        expect(";");
        while (!is("")) clause(s);
        return s;
    }

    private void clause(Model.State s) throws Wrong {
        String keyword = here().text;
        int at = here().at;
        int count;
        switch (keyword) {
            case "drain": count = s.drains.size() == 5 ? 3 : 0; break;
            case "tap": count = s.taps.size() == 5 ? 3 : 0; break;
            case "boat": count = s.boats.size() == 12 ? 3 : 0; break;
            case "soap": count = 0; break;
            default: throw new Wrong(1, at);
        }
        if (count != 0) throw new Wrong(count, at);
        next++;
        int x = number(0, s.w - 1);
        int rowAt = here().at;
        int y = number(0, s.h - 1);
        if (keyword.equals("drain") || keyword.equals("tap")) {
            for (Model.Drain d : s.drains) if (d.x == x && d.y == y) throw new Wrong(4, rowAt);
            for (Model.Tap t : s.taps) if (t.x == x && t.y == y) throw new Wrong(4, rowAt);
        }
        if (keyword.equals("boat") && s.boatAt(x, y) >= 0) throw new Wrong(4, rowAt);
        if (keyword.equals("drain")) {
            Model.Drain d = new Model.Drain();
            d.x = x;
            d.y = y;
            d.size = number(1, 99);
            d.rate = number(0, 99);
            s.drains.add(d);
        } else if (keyword.equals("tap")) {
            Model.Tap t = new Model.Tap();
            t.x = x;
            t.y = y;
            t.rate = number(0, 99);
            s.taps.add(t);
        } else if (keyword.equals("boat")) {
            Model.Boat b = new Model.Boat();
            b.x = x;
            b.y = y;
            b.weight = number(1, 99);
            b.strength = number(1, 999);
            if (accept("wet")) b.wet = number(0, b.strength);
            s.boats.add(b);
        } else {
            s.soap[y][x] = number(1, 99);
        }
        expect(";");
    }

    int query(Model.State s) throws Wrong {
        boolean many = is("many");
        if (!many && !is("first")) throw new Wrong(1, here().at);
        next++;
        IntPredicate test = test(s);
        if (!is("")) throw new Wrong(1, here().at);
        int count = 0;
        int first = -1;
        for (int b = s.boats.size() - 1; b >= 0; b--) {
            if (test.test(b)) {
                count++;
                first = b;
            }
        }
        return many ? count : first;
    }

    private IntPredicate test(Model.State s) throws Wrong {
        IntPredicate left = conjunction(s);
        while (accept("or")) {
            IntPredicate a = left;
            IntPredicate b = conjunction(s);
            left = i -> a.test(i) || b.test(i);
        }
        return left;
    }

    private IntPredicate conjunction(Model.State s) throws Wrong {
        IntPredicate left = factor(s);
        while (accept("and")) {
            IntPredicate a = left;
            IntPredicate b = factor(s);
            left = i -> a.test(i) && b.test(i);
        }
        return left;
    }

    private IntPredicate factor(Model.State s) throws Wrong {
        if (is("not") || is("(")) {
            if (open == 6) throw new Wrong(3, here().at);
            open++;
            IntPredicate result;
            if (accept("not")) {
                result = factor(s).negate();
            } else {
                next++;
                result = test(s);
                expect(")");
            }
            open--;
            return result;
        }
        IntUnaryOperator left = value(s);
        String sign = here().text;
        if (!sign.equals("<") && !sign.equals("=") && !sign.equals(">")) throw new Wrong(1, here().at);
        next++;
        IntUnaryOperator right = value(s);
        return i -> {
            int compared = Integer.compare(left.applyAsInt(i), right.applyAsInt(i));
            return sign.equals("<") ? compared < 0 : sign.equals("=") ? compared == 0 : compared > 0;
        };
    }

    private IntUnaryOperator value(Model.State s) throws Wrong {
        if (here().number()) {
            int n = number(0, 9999);
            return i -> n;
        }
        IntUnaryOperator value;
        switch (here().text) {
            case "boat": value = i -> i; break;
            case "x": value = i -> s.boats.get(i).x; break;
            case "y": value = i -> s.boats.get(i).y; break;
            case "weight": value = i -> s.boats.get(i).weight; break;
            case "strength": value = i -> s.boats.get(i).strength; break;
            case "wet": value = i -> s.boats.get(i).wet; break;
            case "state": value = i -> s.boats.get(i).state; break;
            case "soap": value = i -> s.soap[s.boats.get(i).y][s.boats.get(i).x]; break;
            case "moves": value = i -> s.boats.get(i).moves; break;
            case "hits": value = i -> s.boats.get(i).hits; break;
            default: throw new Wrong(1, here().at);
        }
        next++;
        return value;
    }
}
