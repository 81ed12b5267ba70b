import java.nio.charset.StandardCharsets;
import java.util.ArrayList;
import java.util.List;
import java.util.NoSuchElementException;
import java.util.Random;

/** Runs of calls by chance (always the same ones), held against PlainLand. */
public final class PlainTest {
    private static final int RUNS = Integer.getInteger("leftshoes.runs", 1500);
    private static final int WRONG_SHOWN = 20;
    private static int wrong = 0;
    private static Random random;
    private static LeftShoes x;
    private static PlainLand y;
    private static final List<String> said = new ArrayList<>();

    public static void main(String[] args) {
        for (int run = 0; run < RUNS && wrong < WRONG_SHOWN; run++) {
            random = new Random(77_000_003L * run + 5);
            x = new LeftShoes();
            y = new PlainLand();
            said.clear();
            oneRun();
        }
        System.out.println(wrong == 0 ? RUNS + " runs are alike" : wrong + " runs are not alike");
        if (wrong != 0) System.exit(1);
    }

    private static void oneRun() {
        int texts = random.nextInt(3) == 0 ? 6 : 2;
        for (int t = 0; t < texts; t++) {
            if (!tell(aText())) return;
            int calls = random.nextInt(texts == 6 ? 12 : 60);
            for (int i = 0; i < calls; i++) if (!call()) return;
        }
    }

    private static int upTo(int n) { return random.nextInt(n + 1); }
    private static boolean oneIn(int n) { return random.nextInt(n) == 0; }
    private static int within(int least, int most) {
        if (oneIn(40)) return oneIn(2) ? least - 1 - upTo(2) : most + 1 + upTo(2);
        if (oneIn(200)) return oneIn(2) ? Integer.MAX_VALUE : Integer.MIN_VALUE;
        return least + upTo(most - least);
    }

    // ---- texts

    private static final String[] NAMES = {"a", "b", "ann", "zz", "bobbob", "left", "q", "day", "abcdefg", "c"};
    private static String pick(String... s) { return s[random.nextInt(s.length)]; }
    private static String number(int least, int most) {
        if (oneIn(150)) return "" + (most + 1);
        if (oneIn(300) && least > 0) return "" + (least - 1);
        return (oneIn(60) ? "000000000000" : "") + (least + upTo(most - least));
    }

    private static String aText() {
        StringBuilder b = new StringBuilder();
        int persons = oneIn(20) ? 6 : upTo(5);
        List<String> names = new ArrayList<>();
        for (int i = 0; i < persons; i++) {
            String name = oneIn(30) ? pick(NAMES) : new String[] {"a", "b", "ann", "zz", "bobbob", "c"}[i];
            names.add(name);
            b.append("person ").append(name).append(' ').append(number(1, oneIn(2) ? 4 : 20)).append(' ').append(number(0, 99)).append(' ')
                .append(number(0, oneIn(2) ? 5 : 99)).append(';');
        }
        int shoes = oneIn(25) ? 17 : upTo(16);
        for (int i = 0; i < shoes; i++) {
            b.append("shoe ").append(pick("left", "right")).append(' ').append(number(1, oneIn(2) ? 5 : 20)).append(' ').append(number(0, 49)).append(' ')
                .append(pick("boot", "sandal", "felt")).append(' ').append(names.isEmpty() || oneIn(5) ? "bank" : pick(names.toArray(new String[0]))).append(';');
            if (b.length() > 480) break;
        }
        int more = upTo(8);
        for (int i = 0; i < more; i++) {
            String one = names.isEmpty() ? pick(NAMES) : pick(names.toArray(new String[0]));
            String two = names.isEmpty() ? pick(NAMES) : pick(names.toArray(new String[0]));
            switch (random.nextInt(6)) {
                case 0: case 1:
                    if (!one.equals(two) || oneIn(20)) b.append("debt ").append(one).append(' ').append(two).append(' ').append(number(1, oneIn(3) ? 999 : 40)).append(' ').append(number(0, oneIn(3) ? 99 : 4)).append(';');
                    break;
                case 2:
                    if (names.size() > i || oneIn(30)) b.append("claim ").append(names.size() > i ? names.get(i) : one).append(' ').append(number(1, 9)).append(';');
                    break;
                case 3:
                    b.append(oneIn(3) ? "seed " : "swap boot left 1 felt left ").append(number(1, 99)).append(';');
                    break;
                default:
                    b.append("swap ").append(pick("boot", "sandal", "felt")).append(' ').append(pick("left", "right")).append(' ').append(number(1, 9)).append(' ')
                        .append(pick("boot", "sandal", "felt")).append(' ').append(pick("left", "right")).append(' ').append(number(1, 9)).append(';');
            }
        }
        for (String rule : new String[] {"worth", "wear", "pair"}) {
            if (oneIn(2)) b.append("law ").append(rule).append(' ').append(expression(oneIn(4) ? 5 : 3)).append(';');
        }
        return spoil(b);
    }

    private static String expression(int depth) {
        if (depth == 0 || oneIn(4)) {
            return oneIn(2) ? number(0, oneIn(3) ? 9999 : 12) : pick("size", "used", "left", "sort", "steps", "day", "foot");
        }
        String a = expression(depth - 1), b = expression(depth - 1);
        switch (random.nextInt(8)) {
            case 0: return "(" + a + " " + pick("or", "and") + " " + b + ")";
            case 1: return "(not " + a + ")";
            case 2: return "(" + a + pick("<", "<=", "=", "<>", ">=", ">") + b + ")";
            case 3: return "(" + a + ")";
            case 4: return a + pick(" or ", " and ", " < ", " = ", ">=", "<>") + b;
            default: return a + pick("+", "-", "*", "/", " + ", "*") + b;
        }
    }

    private static String spoil(StringBuilder b) {
        if (oneIn(12) && b.length() > 0) b.setLength(upTo(b.length() - 1));
        if (oneIn(8) && b.length() > 0) {
            int at = upTo(b.length() - 1);
            switch (random.nextInt(5)) {
                case 0: b.deleteCharAt(at); break;
                case 1: b.insert(at, pick(" ", "\n", ";", "(", ")", "=", "<", "0", "a", "not ", "person ", " left ", "\u00e9", "\u0000", "A")); break;
                case 2: b.setCharAt(at, (char) upTo(255)); break;
                case 3: b.insert(at, pick("((((((((", "law worth ", "claim a 1;", "seed 3;", "seed 9;")); break;
                default: b.insert(b.length(), pick("  \n", "law wear ", ";", "person", "claim a 1;claim a", "law worth 1+;", "law pair (((((((((1)))))))));"));
            }
        }
        return b.toString();
    }

    private static boolean tell(String text) {
        byte[] bytes = text.getBytes(StandardCharsets.ISO_8859_1);
        if (bytes.length > 700) bytes = java.util.Arrays.copyOf(bytes, 700);
        said.add("TEXT " + text);
        for (int i = 0; i < bytes.length; i += 20) {
            int[] v = new int[5];
            for (int k = 0; k < 20; k++) v[k / 4] = v[k / 4] << 8 | (i + k < bytes.length ? bytes[i + k] & 255 : 32);
            if (!same("feed", x.feed(v[0], v[1], v[2], v[3], v[4]), y.feed(v[0], v[1], v[2], v[3], v[4]))) return false;
        }
        int n = oneIn(30) ? bytes.length + 40 : bytes.length;
        return same("text(" + n + ")", x.text(n), y.text(n)) && same("fault(0)", x.fault(0), y.fault(0))
            && same("fault(1)", x.fault(1), y.fault(1));
    }

    // ---- calls

    private static boolean same(String call, long a, long b) {
        said.add(call + " " + a);
        if (a == b) return true;
        wrong++;
        System.out.println("answered " + a + ", due is " + b + " in: " + said);
        return false;
    }
    private static long of(boolean b) { return b ? 1 : 0; }

    private static long shoeOf(boolean mine, int a, int b) {
        try {
            return mine ? x.shoe(a, b) : y.shoe(a, b);
        } catch (IndexOutOfBoundsException e) {
            return -1001;
        } catch (NoSuchElementException e) {
            return -1002;
        }
    }

    private static int aShoe() { return within(0, Math.max(0, y.count(1) - 1)); }
    private static int aPerson() { return within(0, Math.max(0, y.count(0) - 1)); }
    private static int aPrice() {
        if (oneIn(6)) return within(1, 9999);
        int p = aPerson();
        // A price that some of the own shoes make, now and then.
        if (oneIn(2) && y.isPerson(p)) {
            int sum = 0;
            for (PlainLand.Shoe s : y.now.shoes) if (s.whose == p && oneIn(2)) sum += y.worth(s, y.now.day);
            return sum;
        }
        return within(1, 60);
    }

    private static boolean call() {
        int a, b, c, d;
        switch (random.nextInt(44)) {
            case 0: a = within(0, 2); return same("fault(" + a + ")", x.fault(a), y.fault(a));
            case 1: a = within(1, 26) << 25 | (oneIn(3) ? within(1, 26) << 20 : 0); return same("named(" + a + ")", x.named(a), y.named(a));
            case 2: case 3: a = aShoe(); b = within(0, 6); return same("shoe(" + a + "," + b + ")", shoeOf(true, a, b), shoeOf(false, a, b));
            case 4: a = aPerson(); b = within(0, 4); return same("person(" + a + "," + b + ")", x.person(a, b), y.person(a, b));
            case 5: a = within(0, 7); b = within(0, 4); return same("debt(" + a + "," + b + ")", x.debt(a, b), y.debt(a, b));
            case 6: a = aShoe(); b = aShoe(); return same("pair(" + a + "," + b + ")", x.pair(a, b), y.pair(a, b));
            case 7: a = within(0, 2); b = aShoe(); c = aShoe(); return same("law(" + a + "," + b + "," + c + ")", x.law(a, b, c), y.law(a, b, c));
            case 8: case 9: a = aPerson(); b = aPerson(); c = aPrice(); return same("pay(" + a + "," + b + "," + c + ")", x.pay(a, b, c), y.pay(a, b, c));
            case 10: case 11: a = aShoe(); b = within(-1, y.count(0) - 1); return same("give(" + a + "," + b + ")", of(x.give(a, b)), of(y.give(a, b)));
            case 12: case 13: case 14: case 15: case 16: case 17: a = aShoe(); return same("on(" + a + ")", of(x.on(a)), of(y.on(a)));
            case 18: a = aShoe(); return same("off(" + a + ")", of(x.off(a)), of(y.off(a)));
            case 19: a = oneIn(6) ? within(0, 50) : within(0, 2); return same("days(" + a + ")", x.days(a), y.days(a));
            case 20: return same("refused()", x.refused(), y.refused());
            case 21: a = aPerson(); b = aPrice(); return same("change(" + a + "," + b + ")", x.change(a, b), y.change(a, b));
            case 22: if (!oneIn(3)) return true; a = within(1, 40); b = within(1, 5); return same("mint(" + a + "," + b + ")", x.mint(a, b), y.mint(a, b));
            case 23: if (!matchable()) return true; return same("pairs()", x.pairs(), y.pairs());
            case 24: if (!matchable()) return true; a = aShoe(); return same("partner(" + a + ")", x.partner(a), y.partner(a));
            case 25: case 26: a = aPerson(); b = within(1, oneIn(4) ? 8 : 4); c = within(0, 1); return same("walk(" + a + "," + b + "," + c + ")", x.walk(a, b, c), y.walk(a, b, c));
            case 27: a = aShoe(); b = aShoe(); return same("rests(" + a + "," + b + ")", x.rests(a, b), y.rests(a, b));
            case 28: a = aShoe(); b = aShoe(); c = within(0, 12); return same("rest(" + a + "," + b + "," + c + ")", x.rest(a, b, c), y.rest(a, b, c));
            case 29: a = within(0, (1 << y.count(0)) - 1); return same("run(" + a + ")", x.run(a), y.run(a));
            case 30: a = oneIn(3) ? 0 : within(0, (1 << y.count(0)) - 1); return same("save(" + a + ")", x.save(a), y.save(a));
            case 31: a = within(0, 1); b = aSize(); return same("track(" + a + "," + b + ")", x.track(a, b), y.track(a, b));
            case 32: a = within(0, Math.max(0, y.count(11) - 1)); return same("strike(" + a + ")", x.strike(a), y.strike(a));
            case 33: a = within(-1, y.count(11)); return same("known(" + a + ")", of(x.known(a)), of(y.known(a)));
            case 34: return same("who()", x.who(), y.who());
            case 35: a = within(0, 2); return same("tells(" + a + ")", x.tells(a), y.tells(a));
            case 36: return same("ring()", x.ring(), y.ring());
            case 37: a = within(0, 6); return same("good(" + a + ")", x.good(a), y.good(a));
            case 38:
                if (!oneIn(3)) return true;
                a = oneIn(2) ? upTo(1000) : random.nextInt() & 0x7fffffff; b = within(1, oneIn(3) ? 30 : 4); c = aPerson(); d = within(0, oneIn(6) ? 9999 : 80);
                return same("chance(" + a + "," + b + "," + c + "," + d + ")", x.chance(a, b, c, d), y.chance(a, b, c, d));
            case 39:
                a = within(0, 4); b = oneIn(10) ? aShoe() : a == 2 ? aPerson() : a == 3 ? aShoe() : 0; c = within(0, oneIn(5) ? 50 : 6);
                return same("tried(" + a + "," + b + "," + c + ")", x.tried(a, b, c), y.tried(a, b, c));
            case 40: return same("undo()", x.undo(), y.undo());
            case 41: return oneIn(2) ? same("keep()", x.keep(), y.keep()) : true;
            case 42: return oneIn(2) ? same("back()", x.back(), y.back()) : true;
            default: a = within(0, 13); return same("count(" + a + ")", x.count(a), y.count(a));
        }
    }

    // Trying all matchings of eight and eight would take too long.
    private static boolean matchable() {
        int left = 0, right = 0;
        for (PlainLand.Shoe s : y.now.shoes) if (s.whose != -2) { if (s.side == 0) left++; else right++; }
        return Math.min(left, right) <= 5;
    }

    private static int aSize() {
        int p = y.count(0) == 0 ? 0 : upTo(y.count(0) - 1);
        if (y.isPerson(p) && !oneIn(4)) return y.told.persons.get(p).foot;
        return within(1, 20);
    }
}
