import java.nio.charset.StandardCharsets;
import java.util.ArrayList;
import java.util.HashSet;
import java.util.List;
import java.util.NoSuchElementException;
import java.util.Random;
import java.util.Set;

/** Runs of calls by chance (always the same ones), held against PlainLand. */
public final class PlainTest {
    private static final int RUNS = Integer.getInteger("leftshoes.runs", 800);
    private static final int WRONG_SHOWN = 20;
    private static int wrong = 0;
    private static Random random;
    private static LeftShoes x;
    private static PlainLand y;
    private static final List<String> said = new ArrayList<>();

    public static void main(String[] args) {
        for (int run = 0; run < RUNS && wrong < WRONG_SHOWN; run++) {
            random = new Random(77_000_003L * run + 5);
            x = new LeftShoes();
            y = new PlainLand();
            said.clear();
            oneRun();
        }
        System.out.println(wrong == 0 ? RUNS + " runs are alike" : wrong + " runs are not alike");
        if (wrong != 0) System.exit(1);
    }

    // A rough run tells texts that are mostly faulty; the others tell sound ones, and then much is called.
    private static void oneRun() {
        boolean rough = oneIn(4);
        int texts = rough ? 8 : 2;
        for (int t = 0; t < texts; t++) {
            if (!tell(rough ? spoil(new StringBuilder(aText(true))) : aText(false))) return;
            int calls = rough ? upTo(10) : 100 + upTo(100);
            for (int i = 0; i < calls; i++) if (!call()) return;
        }
    }

    private static int upTo(int n) { return random.nextInt(n + 1); }
    private static boolean oneIn(int n) { return random.nextInt(n) == 0; }
    private static int within(int least, int most) {
        if (oneIn(40)) return oneIn(2) ? least - 1 - upTo(2) : most + 1 + upTo(2);
        if (oneIn(200)) return oneIn(2) ? Integer.MAX_VALUE : Integer.MIN_VALUE;
        return least + upTo(most - least);
    }

    // ---- texts

    private static final String[] NAMES = {"a", "b", "ann", "zz", "bobbob", "left", "q", "day", "abcdefg", "c"};
    private static String pick(String... s) { return s[random.nextInt(s.length)]; }
    private static String number(boolean rough, int least, int most) {
        if (rough && oneIn(100)) return oneIn(2) && least > 0 ? "" + (least - 1) : oneIn(2) ? "99999999999999999999" : "" + (most + 1);
        return (oneIn(60) ? "000000000000" : "") + (least + upTo(most - least));
    }

    private static String aText(boolean rough) {
        StringBuilder b = new StringBuilder();
        int persons = rough ? upTo(6) : 1 + upTo(4);
        List<String> names = new ArrayList<>();
        for (int i = 0; i < persons; i++) {
            String name = rough && oneIn(20) ? pick(NAMES) : new String[] {"a", "b", "ann", "zz", "bobbob", "c"}[i];
            names.add(name);
            b.append("person ").append(name).append(' ').append(number(rough, 1, oneIn(2) ? 4 : 20)).append(' ').append(number(rough, 0, 99)).append(' ')
                .append(number(rough, 0, oneIn(2) ? 5 : 99)).append(';');
        }
        int shoes = rough ? upTo(17) : oneIn(3) ? 16 : 2 + upTo(12);
        String fewer = oneIn(4) ? pick("left", "right") : null;
        for (int i = 0; i < shoes && b.length() < 440; i++) {
            String side = fewer != null && !oneIn(5) ? fewer : pick("left", "right");
            b.append("shoe ").append(side).append(' ').append(number(rough, 1, oneIn(2) ? 5 : 20)).append(' ').append(number(rough, 0, 49)).append(' ')
                .append(pick("boot", "boot", "felt")).append(' ').append(names.isEmpty() || oneIn(5) ? "bank" : pick(names.toArray(new String[0]))).append(';');
        }
        for (String name : names) if (oneIn(2)) b.append("claim ").append(name).append(' ').append(number(rough, 1, oneIn(2) ? 9 : 3)).append(';');
        lines(b, names, rough);
        for (String rule : new String[] {"worth", "wear", "pair"}) {
            if (oneIn(2)) b.append("law ").append(rule).append(' ').append(law(rough, rule)).append(';');
        }
        return b.toString();
    }

    private static void lines(StringBuilder b, List<String> names, boolean rough) {
        Set<String> told = new HashSet<>();
        int more = upTo(8);
        boolean trade = oneIn(3);
        for (int i = 0; i < more && b.length() < 560; i++) {
            String one = names.isEmpty() ? pick(NAMES) : pick(names.toArray(new String[0]));
            String two = names.isEmpty() ? pick(NAMES) : pick(names.toArray(new String[0]));
            if (!trade && (!one.equals(two) || rough)) {
                b.append("debt ").append(one).append(' ').append(two).append(' ').append(number(rough, 1, oneIn(9) ? 999 : oneIn(2) ? 40 : 9)).append(' ')
                    .append(number(rough, 0, oneIn(3) ? 20 : 4)).append(';');
                continue;
            }
            String from = pick("boot", "boot", "felt") + " " + pick("left", "right");
            String to = pick("boot", "boot", "felt") + " " + pick("left", "right");
            if (!trade || (from.equals(to) || !told.add(from + to)) && !rough) continue;
            b.append("swap ").append(from).append(' ').append(number(rough, 1, 9)).append(' ').append(to).append(' ').append(number(rough, 1, 9)).append(';');
        }
        if (oneIn(5)) b.append("seed ").append(number(rough, 0, 99999)).append(';');
    }

    private static String law(boolean rough, String rule) {
        switch (rough ? 0 : random.nextInt(4)) {
            case 0: return expression(rough && oneIn(4) ? 5 : 3);
            case 1: return rule.equals("worth") ? pick("size", "size*2-used/7", "1+size*3-used/5", "left*5+size+day", "size/(foot-3)")
                : rule.equals("wear") ? pick("steps/9+sort", "1+(day>3)*9", "used/(size-2)", "foot+left", "not left") : pick("9-left", "size/2+day", "(left<3)*size", "used/left");
            default: return expression(2);
        }
    }

    private static String expression(int depth) {
        if (depth == 0 || oneIn(4)) {
            return oneIn(2) ? number(false, 0, oneIn(3) ? 9999 : 12) : pick("size", "used", "left", "sort", "steps", "day", "foot");
        }
        String a = expression(depth - 1), b = expression(depth - 1);
        switch (random.nextInt(8)) {
            case 0: return "(" + a + " " + pick("or", "and") + " " + b + ")";
            case 1: return "(not " + a + ")";
            case 2: return "(" + a + pick("<", "<=", "=", "<>", ">=", ">") + b + ")";
            case 3: return "(" + a + ")";
            case 4: return a + pick(" or ", " and ", " < ", " = ", ">=", "<>") + b;
            default: return a + pick("+", "-", "*", "/", " + ", "*") + b;
        }
    }

    private static String spoil(StringBuilder b) {
        if (oneIn(2)) return b.toString();
        if (oneIn(12) && b.length() > 0) b.setLength(upTo(b.length() - 1));
        if (oneIn(2) && b.length() > 0) {
            int at = upTo(b.length() - 1);
            switch (random.nextInt(5)) {
                case 0: b.deleteCharAt(at); break;
                case 1: b.insert(at, pick(" ", "\n", ";", "(", ")", "=", "<", "0", "a", "not ", "person ", " left ", "\u00e9", "\u0000", "A")); break;
                case 2: b.setCharAt(at, (char) upTo(255)); break;
                case 3: b.insert(at, pick("((((((((", "law worth ", "claim a 1;", "seed 3;", "seed 9;")); break;
                default: b.insert(b.length(), pick("  \n", "law wear ", ";", "person", "claim a 1;claim a", "law worth 1+;", "law pair (((((((((1)))))))));"));
            }
        }
        return b.toString();
    }

    private static boolean tell(String text) {
        byte[] bytes = text.getBytes(StandardCharsets.ISO_8859_1);
        if (bytes.length > 700) bytes = java.util.Arrays.copyOf(bytes, 700);
        said.add("TEXT " + text);
        for (int i = 0; i < bytes.length; i += 20) {
            int[] v = new int[5];
            for (int k = 0; k < 20; k++) v[k / 4] = v[k / 4] << 8 | (i + k < bytes.length ? bytes[i + k] & 255 : 32);
            if (!same("feed", x.feed(v[0], v[1], v[2], v[3], v[4]), y.feed(v[0], v[1], v[2], v[3], v[4]))) return false;
        }
        int n = oneIn(30) ? bytes.length + 40 : bytes.length;
        return same("text(" + n + ")", x.text(n), y.text(n)) && same("fault(0)", x.fault(0), y.fault(0))
            && same("fault(1)", x.fault(1), y.fault(1));
    }

    // ---- calls

    private static boolean same(String call, long a, long b) {
        said.add(call + " " + a);
        if (a == b) return true;
        wrong++;
        System.out.println("answered " + a + ", due is " + b + " in: " + said);
        return false;
    }
    private static long of(boolean b) { return b ? 1 : 0; }

    private static long shoeOf(boolean mine, int a, int b) {
        try {
            return mine ? x.shoe(a, b) : y.shoe(a, b);
        } catch (IndexOutOfBoundsException e) {
            return -1001;
        } catch (NoSuchElementException e) {
            return -1002;
        }
    }

    private static int aShoe() { return within(0, Math.max(0, y.count(1) - 1)); }
    private static int aPerson() { return within(0, Math.max(0, y.count(0) - 1)); }
    private static int aPrice() {
        if (oneIn(6)) return within(1, 9999);
        int p = aPerson();
        // A price that some of the own shoes make, now and then.
        if (oneIn(2) && y.isPerson(p)) {
            int sum = 0;
            for (PlainLand.Shoe s : y.now.shoes) if (s.whose == p && oneIn(2)) sum += y.worth(s, y.now.day);
            return sum;
        }
        return within(1, 60);
    }

    private static boolean call() {
        int a, b, c, d;
        switch (random.nextInt(44)) {
            case 0: a = within(0, 2); return same("fault(" + a + ")", x.fault(a), y.fault(a));
            case 1: a = within(1, 26) << 25 | (oneIn(3) ? within(1, 26) << 20 : 0); return same("named(" + a + ")", x.named(a), y.named(a));
            case 2: case 3: a = aShoe(); b = within(0, 6); return same("shoe(" + a + "," + b + ")", shoeOf(true, a, b), shoeOf(false, a, b));
            case 4: a = aPerson(); b = within(0, 4); return same("person(" + a + "," + b + ")", x.person(a, b), y.person(a, b));
            case 5: a = within(0, 7); b = within(0, 4); return same("debt(" + a + "," + b + ")", x.debt(a, b), y.debt(a, b));
            case 6: a = aShoe(); b = aShoe(); return same("pair(" + a + "," + b + ")", x.pair(a, b), y.pair(a, b));
            case 7: a = within(0, 2); b = aShoe(); c = aShoe(); return same("law(" + a + "," + b + "," + c + ")", x.law(a, b, c), y.law(a, b, c));
            case 8: case 9: a = aPerson(); b = aPerson(); c = aPrice(); return same("pay(" + a + "," + b + "," + c + ")", x.pay(a, b, c), y.pay(a, b, c));
            case 10: case 11: a = aShoe(); b = within(-1, y.count(0) - 1); return same("give(" + a + "," + b + ")", of(x.give(a, b)), of(y.give(a, b)));
            case 12: case 13: case 14: case 15: case 16: case 17: a = aShoe(); return same("on(" + a + ")", of(x.on(a)), of(y.on(a)));
            case 18: a = aShoe(); return same("off(" + a + ")", of(x.off(a)), of(y.off(a)));
            case 19: a = oneIn(6) ? within(0, 50) : within(0, 2); return same("days(" + a + ")", x.days(a), y.days(a));
            case 20: return same("refused()", x.refused(), y.refused());
            case 21: a = aPerson(); b = aPrice(); return same("change(" + a + "," + b + ")", x.change(a, b), y.change(a, b));
            case 22: if (!oneIn(3)) return true; a = within(1, 40); b = within(1, 5); return same("mint(" + a + "," + b + ")", x.mint(a, b), y.mint(a, b));
            case 23: if (!matchable()) return true; return same("pairs()", x.pairs(), y.pairs());
            case 24: if (!matchable()) return true; a = aShoe(); return same("partner(" + a + ")", x.partner(a), y.partner(a));
            case 25: case 26: a = aPerson(); b = within(1, oneIn(4) ? 8 : 4); c = within(0, 1); return same("walk(" + a + "," + b + "," + c + ")", x.walk(a, b, c), y.walk(a, b, c));
            case 27: a = aShoe(); b = aShoe(); return same("rests(" + a + "," + b + ")", x.rests(a, b), y.rests(a, b));
            case 28: a = aShoe(); b = aShoe(); c = within(0, 12); return same("rest(" + a + "," + b + "," + c + ")", x.rest(a, b, c), y.rest(a, b, c));
            case 29: a = within(0, (1 << y.count(0)) - 1); return same("run(" + a + ")", x.run(a), y.run(a));
            case 30: a = oneIn(3) ? 0 : within(0, (1 << y.count(0)) - 1); return same("save(" + a + ")", x.save(a), y.save(a));
            case 31: a = within(0, 1); b = aSize(); return same("track(" + a + "," + b + ")", x.track(a, b), y.track(a, b));
            case 32: a = within(0, Math.max(0, y.count(11) - 1)); return same("strike(" + a + ")", x.strike(a), y.strike(a));
            case 33: a = within(-1, y.count(11)); return same("known(" + a + ")", of(x.known(a)), of(y.known(a)));
            case 34: return same("who()", x.who(), y.who());
            case 35: a = within(0, 2); return same("tells(" + a + ")", x.tells(a), y.tells(a));
            case 36: return same("ring()", x.ring(), y.ring());
            case 37: a = within(0, 6); return same("good(" + a + ")", x.good(a), y.good(a));
            case 38:
                if (!oneIn(3)) return true;
                a = oneIn(2) ? upTo(1000) : random.nextInt() & 0x7fffffff; b = within(1, oneIn(3) ? 30 : 4); c = aPerson(); d = within(0, oneIn(6) ? 9999 : 80);
                return same("chance(" + a + "," + b + "," + c + "," + d + ")", x.chance(a, b, c, d), y.chance(a, b, c, d));
            case 39:
                a = within(0, 4); b = oneIn(10) ? aShoe() : a == 2 ? aPerson() : a == 3 ? aShoe() : 0; c = within(0, oneIn(5) ? 50 : 6);
                return same("tried(" + a + "," + b + "," + c + ")", x.tried(a, b, c), y.tried(a, b, c));
            case 40: return same("undo()", x.undo(), y.undo());
            case 41: return oneIn(2) ? same("keep()", x.keep(), y.keep()) : true;
            case 42: return oneIn(2) ? same("back()", x.back(), y.back()) : true;
            default: a = within(0, 13); return same("count(" + a + ")", x.count(a), y.count(a));
        }
    }

    // Trying all matchings of eight and eight would take too long.
    private static boolean matchable() {
        int left = 0, right = 0;
        for (PlainLand.Shoe s : y.now.shoes) if (s.whose != -2) { if (s.side == 0) left++; else right++; }
        return Math.min(left, right) <= 5;
    }

    private static int aSize() {
        int p = y.count(0) == 0 ? 0 : upTo(y.count(0) - 1);
        if (y.isPerson(p) && !oneIn(4)) return y.told.persons.get(p).foot;
        return within(1, 20);
    }
}
