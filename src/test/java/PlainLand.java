import java.math.BigInteger;
import java.util.ArrayDeque;
import java.util.ArrayList;
import java.util.Arrays;
import java.util.HashMap;
import java.util.List;
import java.util.Map;

/**
 * The document once more, written another way: by trying all, with big numbers, trees and whole copies. Slow and
 * plain, so that runs of calls can be held against it.
 */
final class PlainLand {
    static final int NONE = -1;
    static final long ERROR = Long.MIN_VALUE;
    static final List<String> WORDS = List.of("person", "shoe", "debt", "claim", "swap", "seed", "law", "left", "right",
        "boot", "sandal", "felt", "bank", "worth", "pair", "wear", "or", "and", "not", "size", "used", "sort", "steps",
        "day", "foot");
    static final List<String> KINDS = List.of("boot", "sandal", "felt");

    static final class Person { String name; int foot, steps, fare, claim; }
    static final class Rate { int from, to, given, got; }
    static final class Debt { int who, whom, much, day; }
    static final class Tree { String op; int number; Tree a, b; }

    static final class Shoe {
        int side, size, used, kind, whose;
        boolean worn;
        Shoe copy() {
            Shoe s = new Shoe();
            s.side = side; s.size = size; s.used = used; s.kind = kind; s.whose = whose; s.worn = worn;
            return s;
        }
    }

    static final class Told {
        List<Person> persons = new ArrayList<>();
        List<Shoe> shoes = new ArrayList<>();
        List<Debt> debts = new ArrayList<>();
        List<Rate> rates = new ArrayList<>();
        Map<String, Tree> laws = new HashMap<>();
        int lines, knots;
        boolean seed;
    }

    static final class State {
        int day;
        List<Shoe> shoes = new ArrayList<>();
        int[] debts;
        // Which shoe is on which foot: person * 2 + foot; kept apart from the shoes' sides for the trial where all are left.
        Map<Integer, Shoe> feet = new HashMap<>();
        State copy() {
            State s = new State();
            s.day = day;
            s.debts = debts.clone();
            for (Shoe shoe : shoes) s.shoes.add(shoe.copy());
            for (Map.Entry<Integer, Shoe> e : feet.entrySet()) s.feet.put(e.getKey(), s.shoes.get(shoes.indexOf(e.getValue())));
            return s;
        }
    }

    static final class Fault extends Exception {
        final int number, place;
        Fault(int number, int place) { super(null, null, false, false); this.number = number; this.place = place; }
    }

    List<Integer> tape = new ArrayList<>();
    Told told = new Told();
    State now = new State();
    State image;
    ArrayDeque<State> past = new ArrayDeque<>();
    List<int[]> tracks = new ArrayList<>();
    int known = -1;
    int fault = 0, place = NONE;

    PlainLand() { now.debts = new int[0]; }

    // ---- the text

    static final class Token { String s; int place; Token(String s, int place) { this.s = s; this.place = place; } }

    final class Text {
        final int[] bytes;
        final Told t = new Told();
        int at = 0;
        Token token;
        Text(int[] bytes) { this.bytes = bytes; next(); }

        boolean letter(int i) { return i < bytes.length && bytes[i] >= 97 && bytes[i] <= 122; }
        boolean digit(int i) { return i < bytes.length && bytes[i] >= 48 && bytes[i] <= 57; }

        void next() {
            while (at < bytes.length && (bytes[at] == 10 || bytes[at] == 32)) at++;
            int start = at;
            if (at == bytes.length) { token = new Token("", at); return; }
            if (letter(at)) { while (letter(at)) at++; }
            else if (digit(at)) { while (digit(at)) at++; }
            else if ((bytes[at] == '<' || bytes[at] == '>') && at + 1 < bytes.length
                && (bytes[at + 1] == '=' || bytes[at] == '<' && bytes[at + 1] == '>')) at += 2;
            else at++;
            StringBuilder b = new StringBuilder();
            for (int i = start; i < at; i++) b.append((char) bytes[i]);
            token = new Token(b.toString(), start);
        }

        Fault bad(int n) { return new Fault(n, token.place); }
        boolean is(String s) { return token.s.equals(s); }
        void must(String s) throws Fault { if (!is(s)) throw bad(1); next(); }
        boolean isWord() { return token.s.matches("[a-z]{1,6}") && !WORDS.contains(token.s); }
        boolean isNumber() { return token.s.matches("[0-9]+"); }

        int number(int least, int most) throws Fault {
            if (!isNumber()) throw bad(1);
            BigInteger v = new BigInteger(token.s);
            if (v.compareTo(BigInteger.valueOf(least)) < 0 || v.compareTo(BigInteger.valueOf(most)) > 0) throw bad(2);
            next();
            return v.intValue();
        }
        int person() throws Fault {
            if (!isWord()) throw bad(1);
            for (int i = 0; i < t.persons.size(); i++) if (t.persons.get(i).name.equals(token.s)) return i;
            throw bad(4);
        }
        int side() throws Fault {
            if (!is("left") && !is("right")) throw bad(1);
            return is("left") ? 0 : 1;
        }
        int kind() throws Fault {
            if (!KINDS.contains(token.s)) throw bad(1);
            int k = KINDS.indexOf(token.s);
            next();
            return k;
        }

        void read() throws Fault {
            while (token.place < bytes.length) {
                line();
                must(";");
                t.lines++;
            }
        }

        void line() throws Fault {
            String s = token.s;
            if (s.equals("person")) {
                if (t.persons.size() == 5) throw bad(2);
                next();
                if (!isWord()) throw bad(1);
                for (Person p : t.persons) if (p.name.equals(token.s)) throw bad(3);
                Person p = new Person();
                p.name = token.s;
                next();
                p.foot = number(1, 20); p.steps = number(0, 99); p.fare = number(0, 99);
                t.persons.add(p);
            } else if (s.equals("shoe")) {
                if (t.shoes.size() == 16) throw bad(2);
                next();
                Shoe x = new Shoe();
                x.side = side(); next();
                x.size = number(1, 20); x.used = number(0, 49); x.kind = kind();
                x.whose = is("bank") ? -1 : person();
                next();
                t.shoes.add(x);
            } else if (s.equals("debt")) {
                if (t.debts.size() == 8) throw bad(2);
                next();
                Debt d = new Debt();
                d.who = person(); next();
                d.whom = person();
                if (d.who == d.whom) throw bad(5);
                next();
                d.much = number(1, 999); d.day = number(0, 99);
                t.debts.add(d);
            } else if (s.equals("claim")) {
                next();
                Person p = t.persons.get(person());
                if (p.claim != 0) throw bad(3);
                next();
                p.claim = number(1, 9);
            } else if (s.equals("swap")) {
                if (t.rates.size() == 8) throw bad(2);
                next();
                Rate r = new Rate();
                r.from = kind() * 2; r.from += side(); next();
                r.given = number(1, 99);
                r.to = kind() * 2; r.to += side();
                if (r.from == r.to) throw bad(5);
                for (Rate q : t.rates) if (q.from == r.from && q.to == r.to) throw bad(3);
                next();
                r.got = number(1, 99);
                t.rates.add(r);
            } else if (s.equals("seed")) {
                if (t.seed) throw bad(3);
                t.seed = true;
                next();
                number(0, 99999);
            } else if (s.equals("law")) {
                next();
                if (!is("worth") && !is("pair") && !is("wear")) throw bad(1);
                String rule = token.s;
                if (t.laws.containsKey(rule)) throw bad(3);
                next();
                t.laws.put(rule, e(0));
            } else throw bad(1);
        }

        void knot() throws Fault { if (t.knots == 64) throw bad(2); t.knots++; }
        Tree tree(String op, Tree a, Tree b) { Tree x = new Tree(); x.op = op; x.a = a; x.b = b; return x; }

        Tree e(int open) throws Fault {
            Tree x = a(open);
            while (is("or")) { knot(); next(); x = tree("or", x, a(open)); }
            return x;
        }
        Tree a(int open) throws Fault {
            Tree x = b(open);
            while (is("and")) { knot(); next(); x = tree("and", x, b(open)); }
            return x;
        }
        Tree b(int open) throws Fault {
            if (is("not")) { knot(); next(); return tree("not", b(open), null); }
            return c(open);
        }
        Tree c(int open) throws Fault {
            Tree x = s(open);
            if (List.of("<", "<=", "=", "<>", ">=", ">").contains(token.s)) {
                String op = token.s;
                knot(); next();
                x = tree(op, x, s(open));
            }
            return x;
        }
        Tree s(int open) throws Fault {
            Tree x = t(open);
            while (is("+") || is("-")) { String op = token.s; knot(); next(); x = tree(op, x, t(open)); }
            return x;
        }
        Tree t(int open) throws Fault {
            Tree x = p(open);
            while (is("*") || is("/")) { String op = token.s; knot(); next(); x = tree(op, x, p(open)); }
            return x;
        }
        Tree p(int open) throws Fault {
            if (is("(")) {
                if (open == 8) throw bad(2);
                next();
                Tree x = e(open + 1);
                must(")");
                return x;
            }
            if (isNumber()) {
                knot();
                Tree x = new Tree();
                x.op = "#";
                x.number = number(0, 9999);
                return x;
            }
            if (!List.of("size", "used", "left", "sort", "steps", "day", "foot").contains(token.s)) throw bad(1);
            knot();
            Tree x = tree(token.s, null, null);
            next();
            return x;
        }
    }

    // ---- laws

    static final BigInteger LIMIT = BigInteger.TEN.pow(12);

    /** null: an error. */
    static BigInteger value(Tree x, Map<String, Integer> names) {
        if (x.op.equals("#")) return BigInteger.valueOf(x.number);
        if (names.containsKey(x.op)) return BigInteger.valueOf(names.get(x.op));
        BigInteger a = value(x.a, names);
        if (x.op.equals("not")) return a == null ? null : bit(a.signum() == 0);
        BigInteger b = value(x.b, names);
        if (a == null || b == null) return null;
        BigInteger v;
        switch (x.op) {
            case "+": v = a.add(b); break;
            case "-": v = a.subtract(b); break;
            case "*": v = a.multiply(b); break;
            case "/": if (b.signum() == 0) return null; v = a.divide(b); break;
            case "<": v = bit(a.compareTo(b) < 0); break;
            case "<=": v = bit(a.compareTo(b) <= 0); break;
            case "=": v = bit(a.compareTo(b) == 0); break;
            case "<>": v = bit(a.compareTo(b) != 0); break;
            case ">=": v = bit(a.compareTo(b) >= 0); break;
            case ">": v = bit(a.compareTo(b) > 0); break;
            case "and": v = bit(a.signum() != 0 && b.signum() != 0); break;
            default: v = bit(a.signum() != 0 || b.signum() != 0); break;
        }
        return v.abs().compareTo(LIMIT) > 0 ? null : v;
    }
    static BigInteger bit(boolean b) { return b ? BigInteger.ONE : BigInteger.ZERO; }

    Map<String, Integer> namesOf(Shoe s, int day) {
        Map<String, Integer> m = new HashMap<>();
        m.put("size", s.size); m.put("used", s.used); m.put("sort", s.kind); m.put("left", s.side == 0 ? 1 : 0);
        m.put("steps", s.whose >= 0 ? told.persons.get(s.whose).steps : 0);
        m.put("foot", s.whose >= 0 ? told.persons.get(s.whose).foot : 0);
        m.put("day", day);
        return m;
    }
    BigInteger byLaw(String rule, Map<String, Integer> names) {
        return told.laws.containsKey(rule) ? value(told.laws.get(rule), names) : null;
    }
    static int cut(BigInteger v, int most) {
        return v.max(BigInteger.ZERO).min(BigInteger.valueOf(most)).intValue();
    }
    int worth(Shoe s, int day) {
        if (s.whose == -2) return 0;
        BigInteger v = byLaw("worth", namesOf(s, day));
        if (v != null) return cut(v, 999);
        return Math.max(0, (s.side == 0 ? 2 : 1) * s.size - s.used / 5);
    }
    int wear(Shoe s, int day) {
        BigInteger v = byLaw("wear", namesOf(s, day));
        return v != null ? cut(v, 50) : told.persons.get(s.whose).steps / 10;
    }
    BigInteger pairLaw(Shoe l, Shoe r) {
        Map<String, Integer> m = new HashMap<>();
        m.put("size", l.size); m.put("used", l.used + r.used); m.put("sort", l.kind);
        m.put("left", Math.abs(l.size - r.size)); m.put("steps", 0); m.put("foot", 0); m.put("day", now.day);
        return byLaw("pair", m);
    }
    int pairWorth(Shoe l, Shoe r) {
        BigInteger v = pairLaw(l, r);
        return v != null ? cut(v, 999) : l.size == r.size && l.kind == r.kind ? 10 : 0;
    }

    // ---- days

    int changeOf(State s, int person, int price) {
        int n = s.shoes.size();
        int[] w = new int[n];
        List<Integer> own = new ArrayList<>();
        for (int i = 0; i < n; i++) if (s.shoes.get(i).whose == person) { own.add(i); w[i] = worth(s.shoes.get(i), s.day); }
        int best = -2;
        for (int set = 1; set < 1 << own.size(); set++) {
            int sum = 0, bits = 0;
            for (int k = 0; k < own.size(); k++) if ((set >> k & 1) == 1) { sum += w[own.get(k)]; bits |= 1 << own.get(k); }
            if (sum != price) continue;
            if (best < 0 || Integer.bitCount(bits) < Integer.bitCount(best)
                || Integer.bitCount(bits) == Integer.bitCount(best) && bits < best) best = bits;
        }
        return best;
    }
    static void moveTo(State s, int bits, int to) {
        for (int i = 0; i < s.shoes.size(); i++) if ((bits >> i & 1) == 1) {
            Shoe shoe = s.shoes.get(i);
            s.feet.values().removeIf(x -> x == shoe);
            shoe.worn = false;
            shoe.whose = to;
        }
    }
    static void use(State s, Shoe shoe, int more) {
        shoe.used += more;
        if (shoe.used >= 50) moveTo(s, 1 << s.shoes.indexOf(shoe), -2);
    }
    void day(State s, boolean walk, boolean owe) {
        if (walk) for (int f = 0; f < 10; f++) if (s.feet.containsKey(f)) { Shoe x = s.feet.get(f); use(s, x, wear(x, s.day)); }
        if (owe) for (int i = 0; i < told.debts.size(); i++) {
            Debt d = told.debts.get(i);
            if (d.day != s.day) continue;
            int bits = changeOf(s, d.who, d.much);
            s.debts[i] = bits < 0 ? 2 : 1;
            if (bits >= 0) moveTo(s, bits, d.whom);
        }
        s.day++;
    }
    int wealth(State s, int person) {
        int sum = 0;
        for (Shoe x : s.shoes) if (x.whose == person) sum += worth(x, s.day);
        return sum;
    }
    int all(State s) {
        int sum = 0;
        for (Shoe x : s.shoes) sum += worth(x, s.day);
        return sum;
    }

    boolean isPerson(int p) { return p >= 0 && p < told.persons.size(); }
    boolean isShoe(int s) { return s >= 0 && s < told.shoes.size(); }
    boolean lives(int s) { return isShoe(s) && now.shoes.get(s).whose != -2; }
    boolean couple(int l, int r) { return lives(l) && lives(r) && now.shoes.get(l).side == 0 && now.shoes.get(r).side == 1; }
    void note() { past.addLast(now.copy()); if (past.size() > 20) past.removeFirst(); }

    // ---- the calls

    int feed(int a, int b, int c, int d, int e) {
        if (tape.size() + 20 > 700) return NONE;
        for (int x : new int[] {a, b, c, d, e}) for (int i = 3; i >= 0; i--) tape.add(x >>> 8 * i & 255);
        return tape.size();
    }
    int text(int n) {
        if (n < 0 || n > tape.size()) return -2;
        int[] bytes = new int[n];
        for (int i = 0; i < n; i++) bytes[i] = tape.get(i);
        tape.clear();
        Text text = new Text(bytes);
        try {
            text.read();
        } catch (Fault f) {
            fault = f.number;
            place = f.place;
            return NONE;
        }
        fault = 0; place = NONE;
        told = text.t;
        now = new State();
        for (Shoe s : told.shoes) now.shoes.add(s.copy());
        now.debts = new int[told.debts.size()];
        image = null; past.clear(); tracks.clear(); known = -1;
        return told.lines;
    }
    int fault(int what) { return what == 0 ? fault : what == 1 ? place : NONE; }
    int named(int letters) {
        for (int i = 0; i < told.persons.size(); i++) {
            int v = 0;
            for (int k = 0; k < 6; k++) v = v * 32 + (k < told.persons.get(i).name.length() ? told.persons.get(i).name.charAt(k) - 96 : 0);
            if (v == letters) return i;
        }
        return NONE;
    }
    int shoe(int shoe, int what) {
        if (!isShoe(shoe)) throw new IndexOutOfBoundsException();
        if (what < 0 || what > 6) throw new java.util.NoSuchElementException();
        Shoe s = now.shoes.get(shoe);
        return new int[] {s.side, s.size, s.used, s.kind, s.whose, worth(s, now.day), s.worn ? 1 : 0}[what];
    }
    int wornOn(int foot) { return now.feet.containsKey(foot) ? now.shoes.indexOf(now.feet.get(foot)) : NONE; }
    int person(int p, int what) {
        if (!isPerson(p) || what < 0 || what > 4) return NONE;
        int n = 0, bits = 0;
        for (int i = 0; i < now.shoes.size(); i++) if (now.shoes.get(i).whose == p) { n++; bits |= 1 << i; }
        return new int[] {wornOn(2 * p), wornOn(2 * p + 1), wealth(now, p), n, bits}[what];
    }
    int debt(int d, int what) {
        if (d < 0 || d >= told.debts.size() || what < 0 || what > 4) return NONE;
        Debt x = told.debts.get(d);
        return new int[] {x.who, x.whom, x.much, x.day, now.debts[d]}[what];
    }
    int pair(int l, int r) { return couple(l, r) ? pairWorth(now.shoes.get(l), now.shoes.get(r)) : NONE; }
    long law(int what, int shoe, int other) {
        BigInteger v = null;
        if (what == 0 && lives(shoe)) v = byLaw("worth", namesOf(now.shoes.get(shoe), now.day));
        if (what == 1 && lives(shoe)) v = byLaw("wear", namesOf(now.shoes.get(shoe), now.day));
        if (what == 2 && couple(shoe, other)) v = pairLaw(now.shoes.get(shoe), now.shoes.get(other));
        return v == null ? ERROR : v.longValueExact();
    }
    int pay(int from, int to, int price) {
        if (!isPerson(from) || !isPerson(to) || from == to || price < 1 || price > 9999) return NONE;
        int bits = changeOf(now, from, price);
        if (bits >= 0) { note(); moveTo(now, bits, to); }
        return bits;
    }
    boolean give(int shoe, int to) {
        if (!lives(shoe) || to != -1 && !isPerson(to) || now.shoes.get(shoe).whose == to) return false;
        note();
        moveTo(now, 1 << shoe, to);
        return true;
    }
    boolean on(int shoe) {
        if (!lives(shoe) || now.shoes.get(shoe).whose < 0 || now.shoes.get(shoe).worn) return false;
        note();
        Shoe s = now.shoes.get(shoe);
        Shoe old = now.feet.put(2 * s.whose + s.side, s);
        if (old != null) old.worn = false;
        s.worn = true;
        return true;
    }
    boolean off(int shoe) {
        if (!isShoe(shoe) || !now.shoes.get(shoe).worn) return false;
        note();
        Shoe s = now.shoes.get(shoe);
        s.worn = false;
        now.feet.values().removeIf(x -> x == s);
        return true;
    }
    int days(int n) {
        if (n < 0 || n > 50 || now.day + n > 999) return NONE;
        for (int i = 0; i < n; i++) { day(now, true, true); past.clear(); }
        return now.day;
    }
    int refused() {
        for (int i = 0; i < now.debts.length; i++) if (now.debts[i] == 2) return i;
        return NONE;
    }
    int change(int p, int price) { return !isPerson(p) || price < 1 || price > 9999 ? NONE : changeOf(now, p, price); }

    int mint(int n, int k) {
        if (n < 1 || n > 40 || k < 1 || k > 5) return NONE;
        int best = -2;
        for (int bits = 1; bits < 1024; bits++) {
            if (best >= 0 && Integer.bitCount(bits) >= Integer.bitCount(best)) continue;
            int[] least = new int[n + 1];
            Arrays.fill(least, 99);
            least[0] = 0;
            for (int p = 1; p <= n; p++) for (int i = 0; i < 10; i++) if ((bits >> i & 1) == 1) {
                Shoe s = new Shoe();
                s.size = i + 1; s.whose = -1;
                int w = worth(s, now.day);
                if (w > 0 && w <= p) least[p] = Math.min(least[p], least[p - w] + 1);
            }
            boolean all = true;
            for (int p = 1; p <= n; p++) all &= least[p] <= k;
            if (all) best = bits;
        }
        return best;
    }

    // The best pairs by trying all partners of each left shoe, those that come first first.
    int bestSum;
    int[] bestPartners;
    void match(List<Integer> lefts, List<Integer> rights, int i, boolean[] taken, int[] chosen, int sum) {
        if (i == lefts.size()) {
            if (sum > bestSum) { bestSum = sum; bestPartners = chosen.clone(); }
            return;
        }
        for (int j = 0; j < rights.size(); j++) if (!taken[j]) {
            taken[j] = true;
            chosen[i] = j;
            match(lefts, rights, i + 1, taken, chosen, sum + pairWorth(now.shoes.get(lefts.get(i)), now.shoes.get(rights.get(j))));
            taken[j] = false;
        }
        chosen[i] = -1;
        match(lefts, rights, i + 1, taken, chosen, sum);
    }
    int[] matched(boolean sum) {
        List<Integer> lefts = new ArrayList<>(), rights = new ArrayList<>();
        for (int i = 0; i < now.shoes.size(); i++) if (lives(i)) (now.shoes.get(i).side == 0 ? lefts : rights).add(i);
        bestSum = -1;
        match(lefts, rights, 0, new boolean[rights.size()], new int[lefts.size()], 0);
        int[] partner = new int[now.shoes.size()];
        Arrays.fill(partner, -2);
        for (int i = 0; i < lefts.size(); i++) if (bestPartners[i] >= 0) {
            partner[lefts.get(i)] = rights.get(bestPartners[i]);
            partner[rights.get(bestPartners[i])] = lefts.get(i);
        }
        return partner;
    }
    int pairs() { matched(true); return bestSum; }
    int partner(int shoe) { return lives(shoe) ? matched(false)[shoe] : NONE; }

    int walk(int p, int n, int what) {
        if (!isPerson(p) || n < 1 || n > 8 || what < 0 || what > 1) return NONE;
        int best = 0, bestBits = -1;
        for (int way = (1 << n) - 1; way >= 0; way--) {
            int bits = Integer.reverse(way) >>> 32 - n;
            int sum = 0;
            for (int foot = 2 * p; foot <= 2 * p + 1; foot++) {
                if (!now.feet.containsKey(foot)) continue;
                Shoe s = now.feet.get(foot).copy();
                sum += worth(s, now.day + n);
                for (int d = 0; d < n; d++) if ((bits >> d & 1) == 1 && s.used < 50) s.used += wear(s, now.day + d);
                if (s.used < 50) sum -= worth(s, now.day + n);
            }
            sum += told.persons.get(p).fare * (n - Integer.bitCount(bits));
            if (bestBits < 0 || sum < best) { best = sum; bestBits = bits; }
        }
        return what == 0 ? best : bestBits;
    }

    List<Integer> restsOf(int l, int r) {
        if (!couple(l, r)) return null;
        Shoe a = now.shoes.get(l), b = now.shoes.get(r);
        if (a.whose < 0 || b.whose < 0 || a.whose == b.whose) return null;
        int pair = pairWorth(a, b);
        List<Integer> found = new ArrayList<>();
        for (int x = 0; x <= 9; x++) for (int y = 0; y <= 9; y++) {
            int hx = x + y <= pair ? x : 0, hy = x + y <= pair ? y : 0;
            boolean rest = true;
            for (int z = 0; z <= 9; z++) {
                if ((z + y <= pair ? z : 0) > hx) rest = false;
                if ((x + z <= pair ? z : 0) > hy) rest = false;
            }
            if (rest) found.add(10 * x + y);
        }
        return found;
    }
    int rests(int l, int r) { List<Integer> f = restsOf(l, r); return f == null ? NONE : f.size(); }
    int rest(int l, int r, int k) {
        List<Integer> f = restsOf(l, r);
        return f == null || k < 0 ? NONE : k < f.size() ? f.get(k) : -2;
    }

    boolean claimants(int persons) {
        if (persons < 0) return false;
        for (int i = 0; i < 31; i++) if ((persons >> i & 1) == 1 && (!isPerson(i) || told.persons.get(i).claim == 0)) return false;
        return true;
    }
    int runOf(int persons, int more) {
        int bank = more;
        for (Shoe s : now.shoes) if (s.whose == -1) bank++;
        int running = persons;
        while (true) {
            int left = bank;
            for (int i = 0; i < told.persons.size(); i++) if ((running >> i & 1) == 1) left -= told.persons.get(i).claim;
            if (left < 0) left = 0;
            int then = running;
            for (int i = 0; i < told.persons.size(); i++) if (told.persons.get(i).claim > left / 2.0) then |= 1 << i;
            if (then == running) return running;
            running = then;
        }
    }
    int run(int persons) { return claimants(persons) ? runOf(persons, 0) : NONE; }
    int save(int persons) {
        if (!claimants(persons)) return NONE;
        int more = 0;
        while (runOf(persons, more) != persons) more++;
        return more;
    }

    int track(int side, int size) {
        if (side < 0 || side > 1 || size < 1 || size > 20 || tracks.size() == 24) return NONE;
        tracks.add(new int[] {side, size});
        return tracks.size() - 1;
    }
    int strike(int t) {
        if (t < 0 || t >= tracks.size() || tracks.size() == 24) return NONE;
        tracks.add(new int[] {t});
        return tracks.size() - 1;
    }
    boolean known(int n) {
        if (n < -1 || n > tracks.size()) return false;
        known = n;
        return true;
    }
    boolean counts(int t, int n) {
        for (int i = t + 1; i < n; i++) if (tracks.get(i).length == 1 && tracks.get(i)[0] == t && counts(i, n)) return false;
        return true;
    }
    boolean fits(int p, int side, int size) {
        int shoe = wornOn(2 * p + side);
        return shoe < 0 ? told.persons.get(p).foot == size : now.shoes.get(shoe).size == size;
    }
    int who() {
        int n = known < 0 ? tracks.size() : known;
        int bits = 0;
        for (int p = 0; p < told.persons.size(); p++) {
            boolean fit = true;
            for (int t = 0; t < n; t++) if (tracks.get(t).length == 2 && counts(t, n)) fit &= fits(p, tracks.get(t)[0], tracks.get(t)[1]);
            if (fit) bits |= 1 << p;
        }
        return bits;
    }
    int tells(int what) {
        if (what < 0 || what > 2) return NONE;
        int who = who();
        int[] best = null;
        for (int side = 0; side < 2; side++) for (int size = 1; size <= 20; size++) {
            int n = 0;
            for (int p = 0; p < told.persons.size(); p++) if ((who >> p & 1) == 1 && fits(p, side, size)) n++;
            if (n > 0 && (best == null || n < best[2])) best = new int[] {side, size, n};
        }
        return best == null ? -2 : best[what];
    }

    List<Integer> ringOf() {
        List<List<Integer>> rings = new ArrayList<>();
        for (int g = 0; g < 6; g++) rings(new ArrayList<>(List.of(g)), 1, 1, rings);
        List<Integer> best = null;
        for (List<Integer> r : rings) {
            if (best == null || r.size() < best.size()) best = r;
            else if (r.size() == best.size()) {
                for (int i = 0; i < r.size(); i++) {
                    if (r.get(i) < best.get(i)) { best = r; break; }
                    if (r.get(i) > best.get(i)) break;
                }
            }
        }
        return best;
    }
    void rings(List<Integer> path, long given, long got, List<List<Integer>> found) {
        int last = path.get(path.size() - 1);
        for (Rate r : told.rates) if (r.from == last) {
            if (r.to == path.get(0) && got * r.got > given * r.given) found.add(new ArrayList<>(path));
            if (r.to > path.get(0) && !path.contains(r.to)) {
                path.add(r.to);
                rings(path, given * r.given, got * r.got, found);
                path.remove(path.size() - 1);
            }
        }
    }
    int ring() { List<Integer> r = ringOf(); return r == null ? -2 : r.size(); }
    int good(int k) {
        List<Integer> r = ringOf();
        return k < 0 ? NONE : r == null || k >= r.size() ? -2 : r.get(k);
    }

    int chance(int seed, int n, int p, int bound) {
        if (seed < 0 || n < 1 || n > 30 || !isPerson(p) || bound < 0 || bound > 9999 || now.day + n > 999) return NONE;
        BigInteger x = BigInteger.valueOf(seed);
        int years = 0;
        for (int y = 0; y < 10; y++) {
            State s = now.copy();
            for (int d = 0; d < n; d++) {
                x = roll(x);
                int luck = x.intValue() / 65536 % 3;
                if (luck == 0) for (int f = 0; f < 10; f++) { if (s.feet.containsKey(f)) use(s, s.feet.get(f), 5); }
                if (luck == 1 && !s.shoes.isEmpty()) { x = roll(x); moveTo(s, 1 << x.intValue() / 65536 % s.shoes.size(), -2); }
                day(s, true, true);
            }
            if (wealth(s, p) >= bound) years++;
        }
        return years;
    }
    static BigInteger roll(BigInteger x) {
        return x.multiply(BigInteger.valueOf(1103515245)).add(BigInteger.valueOf(12345)).mod(BigInteger.TWO.pow(31));
    }
    int tried(int what, int i, int n) {
        if (what < 0 || what > 4 || n < 0 || n > 50 || now.day + n > 999) return NONE;
        if (what == 2 ? !isPerson(i) : what == 3 ? !isShoe(i) : i != 0) return NONE;
        State s = now.copy();
        if (what == 2) { s.feet.remove(2 * i); s.feet.remove(2 * i + 1); }
        if (what == 3) moveTo(s, 1 << i, -2);
        if (what == 4) for (Shoe x : s.shoes) x.side = 0;
        for (int d = 0; d < n; d++) day(s, what != 0, what != 1);
        return all(s);
    }
    int undo() {
        if (past.isEmpty()) return NONE;
        now = past.removeLast();
        return past.size();
    }
    int keep() { image = now.copy(); return now.day; }
    int back() {
        if (image == null) return NONE;
        now = image.copy();
        past.clear();
        return now.day;
    }
    int count(int what) {
        int grave = 0, bank = 0, paid = 0, refused = 0;
        for (Shoe s : now.shoes) { if (s.whose == -2) grave++; if (s.whose == -1) bank++; }
        for (int d : now.debts) { if (d == 1) paid++; if (d == 2) refused++; }
        int[] all = {told.persons.size(), told.shoes.size(), told.debts.size(), told.rates.size(), told.knots, now.day, grave,
            bank, all(now), paid, refused, tracks.size(), known < 0 ? tracks.size() : known, past.size()};
        return what < 0 || what > 13 ? NONE : all[what];
    }
}
