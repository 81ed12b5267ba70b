import java.math.BigInteger;
import java.util.List;

/** The sentences on how the land goes (Terms, ==== 2. to ==== 4.) that name a boundary: each held on both sides of it. */
public final class EdgeLandTest {
    private static final long ERROR = Long.MIN_VALUE;
    // 10 to the 12, within a law.
    private static final String MOST = "(1000*1000*1000*1000)";

    public static void main(String[] args) {
        Due.each(EdgeLandTest.class);
    }

    // ---- shoes, worth, pairs

    private static void whoseAShoeIs() {
        Due.by("Each SHOE is somebody's, the BANK's, or in the GRAVE.");
        LeftShoes x = Due.told("person a 1 99 0;person b 1 0 0;shoe left 9 49 boot a;shoe left 9 0 boot bank;shoe right 9 0 boot b;");
        Due.is("a's", x.shoe(0, 4), 0);
        Due.is("the bank's", x.shoe(1, 4), -1);
        Due.is("b's", x.shoe(2, 4), 1);
        x.on(0);
        x.days(1);
        Due.is("in the grave", x.shoe(0, 4), -2);
        Due.is("no more a's", x.person(0, 4), 0);
        Due.is("of the bank", x.count(7), 1);
        Due.is("of the grave", x.count(6), 1);
        x.give(1, 0);
        Due.is("a's then", x.person(0, 4), 0b010);
        Due.is("no more of the bank", x.count(7), 0);
    }

    private static void oneShoeAFoot() {
        Due.by("A PERSON may wear one left and one right SHOE of own ones.");
        LeftShoes x = Due.told("person a 1 0 0;person b 1 0 0;shoe left 9 0 boot a;shoe left 8 0 boot a;shoe right 9 0 boot a;shoe right 8 0 boot a;shoe left 7 0 boot b;");
        for (int shoe = 0; shoe < 5; shoe++) Due.is("on " + shoe, x.on(shoe), true);
        int[] worn = {0, 1, 0, 1, 1};
        for (int shoe = 0; shoe < 5; shoe++) Due.is("worn " + shoe, x.shoe(shoe, 6), worn[shoe]);
        Due.is("left of a", x.person(0, 0), 1);
        Due.is("right of a", x.person(0, 1), 3);
        Due.is("left of b", x.person(1, 0), 4);
        Due.is("right of b", x.person(1, 1), -1);
        x.give(1, 1);
        Due.is("no own one any more", x.person(0, 0), -1);
        Due.is("nor worn by whom it goes to", x.person(1, 0), 4);
    }

    // Five persons with a left shoe i and a right shoe i + 5 each, all worn, of size i + 1; steps wear i + 1 a day.
    private static LeftShoes fiveLand() {
        StringBuilder b = new StringBuilder();
        for (int i = 0; i < 5; i++) b.append("person ").append((char) ('a' + i)).append(' ').append(20 - i).append(' ').append(10 * (i + 1)).append(' ').append(9 - i).append(';');
        for (int i = 0; i < 10; i++) b.append(i < 5 ? "shoe left " : "shoe right ").append(i + 1).append(" 0 boot ").append((char) ('a' + i % 5)).append(';');
        LeftShoes x = Due.told(b + "law worth 100-used;");
        for (int i = 0; i < 10; i++) x.on(i);
        return x;
    }

    private static void feetOfFive() {
        Due.by("A PERSON may wear one left and one right SHOE");
        LeftShoes x = fiveLand();
        for (int i = 0; i < 5; i++) {
            Due.is("left of " + i, x.person(i, 0), i);
            Due.is("right of " + i, x.person(i, 1), i + 5);
            Due.is("worn " + i, x.shoe(i, 6), 1);
            Due.is("worn " + (i + 5), x.shoe(i + 5, 6), 1);
            Due.is("put on already " + (i + 5), x.on(i + 5), false);
        }
        for (int i = 0; i < 10; i++) {
            Due.is("off " + i, x.off(i), true);
            for (int other = 0; other < 10; other++) Due.is("worn " + other + " behind off " + i, x.shoe(other, 6), other > i ? 1 : 0);
        }
        for (int i = 9; i >= 0; i--) {
            Due.is("undone", x.undo(), 10 + i);
            Due.is("on again", x.person(i % 5, i / 5), i);
        }
    }

    private static void daysOfFive() {
        Due.by("A DAY: by PERSONS each SHOE worn (left, then right)");
        LeftShoes x = fiveLand();
        x.keep();
        x.days(2);
        for (int i = 0; i < 10; i++) Due.is("used " + i, x.shoe(i, 2), 2 * (i % 5 + 1));
        for (int i = 0; i < 5; i++) {
            Due.is("walk of " + i, x.walk(i, 1, 0), Math.min(2 * (i + 1), 9 - i));
            Due.is("walked by " + i, x.walk(i, 1, 1), 2 * (i + 1) <= 9 - i ? 1 : 0);
            Due.is(i + " barefoot", x.tried(2, i, 1), x.count(8) - 30 + 2 * (i + 1));
        }
        x.days(8);
        Due.is("e's are worn out", x.count(6), 2);
        Due.is("left of e", x.person(4, 0), -1);
        Due.is("right of e", x.person(4, 1), -1);
        for (int i = 0; i < 10; i++) x.off(i);
        x.back();
        for (int i = 0; i < 10; i++) Due.is("worn as in the image " + i, x.person(i % 5, i / 5), i);
        for (int i = 0; i < 5; i++) {
            x.track(0, i + 1);
            Due.is("who by left " + i, x.who(), 1 << i);
            x.strike(2 * i);
        }
    }

    private static int worth(String side, int size, int used, String law) {
        return Due.told("shoe " + side + " " + size + " " + used + " boot bank;" + law).shoe(0, 5);
    }

    private static void worthByLaw() {
        Due.by("WORTH of a SHOE: E of worth (0 .. 999;");
        String[] laws = {"0-" + MOST, "0-1000", "0-1", "0", "1", "998", "999", "1000", "9999", MOST};
        int[] due = {0, 0, 0, 0, 1, 998, 999, 999, 999, 999};
        for (int i = 0; i < laws.length; i++) Due.is(laws[i], worth("left", 8, 10, "law worth " + laws[i] + ";"), due[i]);
        // As ints these would be 5 again.
        Due.is("2 to the 32 and 5", worth("left", 8, 10, "law worth 4096*4096*256+5;"), 999);
        Due.is("5 less 2 to the 32", worth("left", 8, 10, "law worth 5-4096*4096*256;"), 0);
    }

    private static void worthWithoutALaw() {
        Due.by("without, with an ERROR: SIZE, twice if left, less USED by 5, cut, 0 at least)");
        String[] laws = {"", "law worth 1/0;", "law worth " + MOST + "+1;", "law worth 0-1-" + MOST + ";", "law pair 7;law wear 7;"};
        for (String law : laws) {
            int[][] lefts = {{8, 0, 16}, {8, 4, 16}, {8, 5, 15}, {8, 9, 15}, {8, 10, 14}, {8, 49, 7}, {20, 0, 40}, {1, 9, 1}, {1, 10, 0}, {1, 15, 0},
                {1, 49, 0}, {5, 49, 1}, {4, 44, 0}, {4, 45, 0}};
            for (int[] s : lefts) Due.is("left " + s[0] + " used " + s[1] + " " + law, worth("left", s[0], s[1], law), s[2]);
            int[][] rights = {{8, 0, 8}, {8, 4, 8}, {8, 5, 7}, {20, 0, 20}, {1, 4, 1}, {1, 5, 0}, {1, 10, 0}, {9, 49, 0}, {10, 49, 1}, {8, 49, 0}};
            for (int[] s : rights) Due.is("right " + s[0] + " used " + s[1] + " " + law, worth("right", s[0], s[1], law), s[2]);
        }
    }

    private static void worthInTheGrave() {
        Due.by("0 in the GRAVE.");
        LeftShoes x = Due.told("person a 1 10 0;shoe left 9 48 boot a;shoe left 9 0 boot a;law worth 7;");
        x.on(0);
        x.days(1);
        Due.is("49", x.shoe(0, 5), 7);
        Due.is("of a", x.person(0, 2), 14);
        x.days(1);
        Due.is("50", x.shoe(0, 5), 0);
        Due.is("of a then", x.person(0, 2), 7);
        Due.is("of all then", x.count(8), 7);
    }

    private static int pairOf(String right, String law) {
        return Due.told("shoe left 8 49 sandal bank;shoe right " + right + " bank;" + law).pair(0, 1);
    }

    private static void pairByLaw() {
        Due.by("PAIR of a left and a right SHOE: E of pair (0 .. 999;");
        String[] laws = {"0-" + MOST, "0-1", "0", "1", "998", "999", "1000", MOST};
        int[] due = {0, 0, 0, 1, 998, 999, 999, 999};
        for (int i = 0; i < laws.length; i++) Due.is(laws[i], pairOf("8 0 sandal", "law pair " + laws[i] + ";"), due[i]);
    }

    private static void pairWithoutALaw() {
        Due.by("without, with an ERROR: 10, if SIZES and KINDS are alike, else 0) is what they are worth more together.");
        for (String law : new String[] {"", "law pair 1/0;", "law pair " + MOST + "+1;", "law worth 5;"}) {
            Due.is("alike", pairOf("8 0 sandal", law), 10);
            Due.is("size 7", pairOf("7 49 sandal", law), 0);
            Due.is("size 9", pairOf("9 49 sandal", law), 0);
            Due.is("boot", pairOf("8 49 boot", law), 0);
            Due.is("felt", pairOf("8 49 felt", law), 0);
            Due.is("both unlike", pairOf("9 49 felt", law), 0);
        }
    }

    // ---- names and values

    private static void namesOfAShoe() {
        Due.by("NAMES: size, used, sort (KIND), left (1, 0): of the SHOE");
        for (int i = 0; i < 2; i++) {
            String shoe = i == 0 ? "shoe left 1 0 boot bank;" : "shoe right 20 49 felt bank;";
            Due.is("size", Due.told(shoe + "law worth size;").law(0, 0, 0), i == 0 ? 1 : 20);
            Due.is("used", Due.told(shoe + "law worth used;").law(0, 0, 0), i == 0 ? 0 : 49);
            Due.is("sort", Due.told(shoe + "law worth sort;").law(0, 0, 0), i == 0 ? 0 : 2);
            Due.is("left", Due.told(shoe + "law worth left;").law(0, 0, 0), i == 0 ? 1 : 0);
            Due.is("left, by wear", Due.told(shoe + "law wear left;").law(1, 0, 0), i == 0 ? 1 : 0);
        }
        Due.is("sort of sandals", Due.told("shoe left 1 0 sandal bank;law worth sort;").law(0, 0, 0), 1);
    }

    private static void namesOfAPair() {
        Due.by("(of pair of the left one, used of both in sum, left: how unlike the SIZES are)");
        String land = "shoe left 1 49 felt bank;shoe right 20 49 boot bank;shoe left 20 0 boot bank;shoe right 1 0 felt bank;law pair ";
        Due.is("used 98", Due.told(land + "used;").law(2, 0, 1), 98);
        Due.is("used 49", Due.told(land + "used;").law(2, 0, 3), 49);
        Due.is("used 0", Due.told(land + "used;").law(2, 2, 3), 0);
        Due.is("19 below", Due.told(land + "left;").law(2, 0, 1), 19);
        Due.is("19 above", Due.told(land + "left;").law(2, 2, 3), 19);
        Due.is("not unlike", Due.told(land + "left;").law(2, 2, 1), 0);
        Due.is("size of the left one", Due.told(land + "size;").law(2, 2, 3), 20);
        Due.is("sort of the left one", Due.told(land + "sort;").law(2, 0, 1), 2);
        Due.is("sort of the other left one", Due.told(land + "sort;").law(2, 2, 3), 0);
    }

    private static void stepsAndFoot() {
        Due.by("steps: STEPS of whose it is (0 of the BANK's; of pair 0), foot: FOOT of whose it is (likewise); day.");
        String land = "person a 20 99 5;person b 1 0 5;shoe left 5 0 boot a;shoe right 5 0 boot b;shoe left 5 0 boot bank;";
        LeftShoes x = Due.told(land + "law worth steps;law wear foot;law pair steps+foot;");
        int[] steps = {99, 0, 0};
        int[] foot = {20, 1, 0};
        for (int shoe = 0; shoe < 3; shoe++) {
            Due.is("steps " + shoe, x.law(0, shoe, 0), steps[shoe]);
            Due.is("foot " + shoe, x.law(1, shoe, 0), foot[shoe]);
        }
        Due.is("of a's, just ahead of pair", x.law(0, 0, 0), 99);
        Due.is("of pair", x.law(2, 0, 1), 0);
        Due.is("of a's, just ahead of the bank's", x.law(1, 0, 0), 20);
        Due.is("of the bank's", x.law(1, 2, 0), 0);
        x.give(0, -1);
        Due.is("steps at the bank", x.law(0, 0, 0), 0);
        Due.is("foot at the bank", x.law(1, 0, 0), 0);
        x = Due.told(land + "law worth day;law pair day;");
        Due.is("day 0", x.law(0, 0, 0), 0);
        Due.pass(x, 999);
        Due.is("day 999", x.law(0, 0, 0), 999);
        Due.is("day 999 of pair", x.law(2, 0, 1), 999);
    }

    private static void value(String e, long due) {
        Due.is(e, Due.told("shoe left 8 3 felt bank;law worth " + e + ";").law(0, 0, 0), due);
    }

    private static void comparisons() {
        Due.by("comparisons, and, or, not are 1 or 0");
        String[] signs = {"<", "<=", "=", "<>", ">=", ">"};
        int[][] due = {{1, 0, 0}, {1, 1, 0}, {0, 1, 0}, {1, 0, 1}, {0, 1, 1}, {0, 0, 1}};
        for (int i = 0; i < signs.length; i++) {
            for (int k = 0; k < 3; k++) {
                value(4 + k + signs[i] + "5", due[i][k]);
                value("0-" + (6 - k) + signs[i] + "0-5", due[i][k]);
                value(MOST + "-" + (6 - k) + signs[i] + MOST + "-5", due[i][k]);
            }
        }
        for (int a = 0; a < 2; a++) {
            value("not " + a, 1 - a);
            for (int b = 0; b < 2; b++) {
                value(a + " and " + b, a & b);
                value(a + " or " + b, a | b);
            }
        }
    }

    private static void whatIsNotZero() {
        Due.by("(what isn't 0 is as 1, both sides are worked out)");
        for (String v : new String[] {"2", "9999", "(0-1)", MOST, "(0-" + MOST + ")"}) {
            value("not " + v, 0);
            value("not not " + v, 1);
            value(v + " and " + v, 1);
            value(v + " and 0", 0);
            value("0 and " + v, 0);
            value(v + " or 0", 1);
            value("0 or " + v, 1);
        }
        value("0 and 1/0", ERROR);
        value("1/0 and 0", ERROR);
        value("1 or 1/0", ERROR);
        value("1/0 or 1", ERROR);
    }

    private static void whatBindsCloser() {
        Due.by("E: A { or A }. A: B { and B }. B: not B | C. C: S");
        value("1 or 0 and 0", 1);
        value("0 and 0 or 1", 1);
        value("(1 or 0) and 0", 0);
        value("not 1 and 0", 0);
        value("not (1 and 0)", 1);
        value("not 1 or 1", 1);
        value("not 0=1", 1);
        value("(not 0)=0", 0);
        value("1+1=2", 1);
        value("2=1+1", 1);
        value("1+(1=2)", 1);
        value("1<2 and 3<4", 1);
        value("2+3*4", 14);
        value("2*3+4", 10);
        value("9-4-3", 2);
        value("9-(4-3)", 8);
        value("100/10/5", 2);
        value("100/(10/5)", 50);
        value("7/2*2", 6);
        value("7*2/2", 7);
    }

    private static void cutTowardsZero() {
        Due.by("/ is cut towards 0");
        value("6/3", 2);
        value("7/3", 2);
        value("8/3", 2);
        value("9/3", 3);
        value("(0-8)/3", -2);
        value("8/(0-3)", -2);
        value("(0-8)/(0-3)", 2);
        value("(0-9)/3", -3);
        value("1/2", 0);
        value("(0-1)/2", 0);
        value("0/9", 0);
        value(MOST + "/" + MOST, 1);
        value("(" + MOST + "-1)/" + MOST, 0);
    }

    private static void byZero() {
        Due.by("ERROR: / by 0");
        value("1/1", 1);
        value("1/0", ERROR);
        value("0/0", ERROR);
        value("1/(0-1)", -1);
        value("1/(size-7)", 1);
        value("1/(size-8)", ERROR);
        value("5+0*(1/0)", ERROR);
        value("not (1/0)", ERROR);
        value("(1/0)=(1/0)", ERROR);
        value("1/(1/2)", ERROR);
    }

    private static void tooFarFromZero() {
        Due.by("a value above 10 to the 12 or below 0 by more than that.");
        long most = 1000000000000L;
        value(MOST, most);
        value(MOST + "+0", most);
        value(MOST + "+1", ERROR);
        value("1+" + MOST, ERROR);
        value("0-" + MOST, -most);
        value("0-" + MOST + "-1", ERROR);
        value("(0-1)-" + MOST, ERROR);
        value("0-1+(0-" + MOST + ")", ERROR);
        value("(1000*1000*1000)*1000", most);
        value("(1000*1000*1000)*1001", ERROR);
        value("(1000*1000*1000)*(0-1000)", -most);
        value("(1000*1000*1000)*(0-1001)", ERROR);
        value("(0-1000*1000*1000)*(0-1000)", most);
        value("(0-1000*1000*1000)*(0-1001)", ERROR);
        value("(0-1000*1000*1000)*1001", ERROR);
        value(MOST + "+1-1", ERROR);
        value("0*(" + MOST + "+1)", ERROR);
        value("(" + MOST + "+1)/2", ERROR);
        value("(" + MOST + "+1)>0", ERROR);
        value("not (" + MOST + "+1)", ERROR);
        value("0-(0-" + MOST + ")", most);
        value("0*" + MOST, 0);
        value(MOST + "*0", 0);
        value(MOST + "*1", most);
        value(MOST + "*(0-1)", -most);
        value("(0-1)*" + MOST, -most);
        value("(0-1)*(0-1)", 1);
        value("(0-1)*1", -1);
        value("1*(0-1)", -1);
        // Where a long wraps around, these would be small again: 2 to the 64, to the 66, to the 72.
        value("(4096*4096*256)*(4096*4096*256)", ERROR);
        value("(4096*4096*512)*(4096*4096*512)", ERROR);
        value("(4096*4096*4096)*(4096*16)*(4096*4096*4096)", ERROR);
        value("(0-4096*4096*256)*(4096*4096*256)", ERROR);
        value("(4096*4096*256)*(0-4096*4096*256)", ERROR);
        value("(0-4096*4096*256)*(0-4096*4096*256)", ERROR);
        value(MOST + "*" + MOST, ERROR);
    }

    // ---- change, paying, days

    private static void justThatSum() {
        Due.by("CHANGE of a PERSON for a price: own SHOES (bits) whose WORTH makes just that sum");
        LeftShoes x = Due.told("person a 1 0 0;person b 1 0 0;shoe left 10 0 boot a;shoe left 5 0 boot a;shoe left 1 0 boot b;shoe left 3 0 boot bank;law worth size;");
        int[] due = {0, -2, -2, -2, -2, 0b10, -2, -2, -2, -2, 0b01, -2, -2, -2, -2, 0b11, -2, -2};
        for (int price = 1; price < due.length; price++) Due.is("change of a for " + price, x.change(0, price), due[price]);
        Due.is("change of b", x.change(1, 1), 0b100);
        Due.is("change of b for more", x.change(1, 2), -2);
        x = Due.told("person a 1 99 0;shoe left 10 49 boot a;law worth 5;");
        Due.is("ahead of the grave", x.change(0, 5), 1);
        x.on(0);
        x.days(1);
        Due.is("in the grave", x.change(0, 5), -2);
    }

    private static void theFewest() {
        Due.by("the fewest, of several the least bits.");
        String land = "person a 1 0 0;";
        for (int size : new int[] {1, 2, 3, 4, 5, 5, 6, 10, 20}) land += "shoe left " + size + " 0 boot a;";
        LeftShoes x = Due.told(land + "law worth size;");
        Due.is("one, not two", x.change(0, 10), 0b010000000);
        Due.is("of two alike the first", x.change(0, 5), 0b000010000);
        Due.is("7: 3 and 4, not 2 and 5 or 1 and 6", x.change(0, 7), 0b000001100);
        Due.is("9: 4 and 5, not 3 and 6", x.change(0, 9), 0b000011000);
        Due.is("20: one", x.change(0, 20), 0b100000000);
        Due.is("all", x.change(0, 56), 0b111111111);
        Due.is("all but the first", x.change(0, 55), 0b111111110);
        Due.is("more than all", x.change(0, 57), -2);
        x = Due.told("person a 1 0 0;shoe right 1 5 boot a;shoe left 3 0 boot a;shoe right 1 9 boot a;");
        Due.is("what is worth 0 stays", x.change(0, 6), 0b010);
        x = Due.told("person a 1 0 0;" + "shoe left 1 0 boot a;".repeat(16) + "law worth 1;");
        Due.is("fifteen of sixteen", x.change(0, 15), 0b0111111111111111);
        Due.is("all sixteen", x.change(0, 16), 0b1111111111111111);
        Due.is("seventeen", x.change(0, 17), -2);
        // Two of the highest bits are fewer than three of the lowest.
        land = "person a 1 0 0;";
        for (int i = 0; i < 16; i++) land += "shoe left " + (i < 3 ? 2 : i == 14 ? 1 : i == 15 ? 5 : 20) + " 0 boot a;";
        x = Due.told(land + "law worth size;");
        Due.is("1 and 5, not 2 and 2 and 2", x.change(0, 6), 0b1100000000000000);
        Due.is("2 and 5", x.change(0, 7), 0b1000000000000001);
    }

    private static void payingTakesOff() {
        Due.by("PAYING: that CHANGE goes over (taken off, if worn).");
        LeftShoes x = Due.told("person a 1 0 0;person b 1 0 0;shoe left 5 0 boot a;shoe right 3 0 boot a;shoe left 9 0 boot b;law worth size;debt b a 8 0;");
        for (int shoe = 0; shoe < 3; shoe++) x.on(shoe);
        Due.is("both", x.pay(0, 1, 8), 0b011);
        Due.is("left foot of a", x.person(0, 0), -1);
        Due.is("right foot of a", x.person(0, 1), -1);
        Due.is("b wears its own one", x.person(1, 0), 2);
        Due.is("and none on the right", x.person(1, 1), -1);
        Due.is("they are b's", x.person(1, 4), 0b111);
        x.on(1);
        x.days(1);
        Due.is("a debt is paid by them", x.debt(0, 4), 1);
        Due.is("taken off then, too", x.person(1, 1), -1);
        Due.is("what doesn't go over is on", x.person(1, 0), 2);
    }

    private static LeftShoes worn(int steps, int used, String law) {
        LeftShoes x = Due.told("person a 1 " + steps + " 0;shoe left 9 " + used + " boot a;shoe right 9 " + used + " boot a;shoe left 9 " + used + " boot a;" + law);
        x.on(0);
        x.on(1);
        return x;
    }

    private static void wearByLaw() {
        Due.by("each SHOE worn (left, then right) is more USED by E of wear (0 .. 50;");
        String[] laws = {"0-" + MOST, "0-1", "0", "1", "49", "50", "51", "9999", MOST};
        int[] due = {0, 0, 0, 1, 49, 50, 50, 50, 50};
        for (int i = 0; i < laws.length; i++) {
            LeftShoes x = worn(99, 0, "law wear " + laws[i] + ";");
            x.days(1);
            Due.is("left by " + laws[i], x.shoe(0, 2), due[i]);
            Due.is("right by " + laws[i], x.shoe(1, 2), due[i]);
            Due.is("not worn by " + laws[i], x.shoe(2, 2), 0);
            Due.is("in the grave by " + laws[i], x.count(6), due[i] >= 50 ? 2 : 0);
        }
    }

    private static void wearWithoutALaw() {
        Due.by("STEPS by 10, cut, without, with an ERROR)");
        for (String law : new String[] {"", "law wear 1/0;", "law wear " + MOST + "+1;", "law wear 0-1-" + MOST + ";"}) {
            int[][] due = {{0, 0}, {9, 0}, {10, 1}, {19, 1}, {20, 2}, {89, 8}, {90, 9}, {99, 9}};
            for (int[] d : due) {
                LeftShoes x = worn(d[0], 7, law);
                x.days(1);
                Due.is("left by " + d[0] + " steps " + law, x.shoe(0, 2), 7 + d[1]);
                Due.is("right by " + d[0] + " steps " + law, x.shoe(1, 2), 7 + d[1]);
                Due.is("not worn", x.shoe(2, 2), 7);
            }
        }
    }

    private static void wornOut() {
        Due.by("at 50 or above it is in the GRAVE.");
        for (int used = 39; used <= 49; used++) {
            LeftShoes x = worn(99, used, "law wear 5*left+3*(1-left);");
            x.days(1);
            Due.is("left from " + used, x.shoe(0, 4), used + 5 >= 50 ? -2 : 0);
            Due.is("left foot from " + used, x.person(0, 0), used + 5 >= 50 ? -1 : 0);
            Due.is("used from " + used, x.shoe(0, 2), used + 5);
            Due.is("right from " + used, x.shoe(1, 4), used + 3 >= 50 ? -2 : 0);
            Due.is("right foot from " + used, x.person(0, 1), used + 3 >= 50 ? -1 : 1);
            Due.is("not worn from " + used, x.shoe(2, 4), 0);
        }
        LeftShoes x = worn(10, 0, "");
        x.days(49);
        Due.is("49 days", x.count(6), 0);
        x.days(1);
        Due.is("50 days", x.count(6), 2);
        x.days(50);
        Due.is("no more used in the grave", x.shoe(0, 2), 50);
    }

    private static void debtsOfThisDay() {
        Due.by("Then the DEBTS of this DAY in their order are PAID");
        LeftShoes x = Due.told("person a 1 0 0;person b 1 0 0;shoe left 5 0 boot a;shoe left 6 0 boot a;law worth size;debt a b 5 0;debt a b 6 99;");
        Due.is("to come", x.debt(0, 4), 0);
        x.days(1);
        Due.is("of day 0", x.debt(0, 4), 1);
        Due.pass(x, 98);
        Due.is("day 99 is to come", x.debt(1, 4), 0);
        x.days(1);
        Due.is("day 99 was", x.debt(1, 4), 1);
        // What comes by the first can pay the second on the same day, but not the other way round.
        String land = "person a 1 0 0;person b 1 0 0;person c 1 0 0;shoe left 5 0 boot a;law worth size;";
        x = Due.told(land + "debt a b 5 3;debt b c 5 3;");
        x.days(4);
        Due.is("handed on", x.shoe(0, 4), 2);
        x = Due.told(land + "debt b c 5 3;debt a b 5 3;");
        x.days(4);
        Due.is("too early", x.debt(0, 4), 2);
        Due.is("paid then", x.shoe(0, 4), 1);
        // The first of two takes the only shoe.
        x = Due.told(land + "debt a b 5 3;debt a c 5 3;");
        x.days(4);
        Due.is("the first", x.debt(0, 4), 1);
        Due.is("the second", x.debt(1, 4), 2);
    }

    private static void wearComesAheadOfDebts() {
        Due.by("Then the DEBTS of this DAY");
        LeftShoes x = Due.told("person a 1 10 0;person b 1 0 0;shoe left 5 48 boot a;law worth 100-used;debt a b 51 0;debt a b 52 0;");
        x.on(0);
        x.days(1);
        Due.is("worth 51 when it is paid", x.debt(0, 4), 1);
        Due.is("52 is refused", x.debt(1, 4), 2);
        x = Due.told("person a 1 10 0;person b 1 0 0;shoe left 5 49 boot a;law worth 100-used;debt a b 50 0;");
        x.on(0);
        x.days(1);
        Due.is("in the grave ahead of it", x.debt(0, 4), 2);
    }

    private static void refusedStays() {
        Due.by("or REFUSED, if there is no CHANGE (it stays so).");
        LeftShoes x = Due.told("person a 1 0 0;person b 1 0 0;shoe left 5 0 boot b;law worth size;debt a b 5 1;debt a b 5 2;");
        x.days(2);
        Due.is("refused", x.debt(0, 4), 2);
        Due.is("the next one isn't yet", x.debt(1, 4), 0);
        x.give(0, 0);
        x.days(1);
        Due.is("the next one is paid", x.debt(1, 4), 1);
        x.give(0, 0);
        x.days(50);
        Due.is("still refused", x.debt(0, 4), 2);
        Due.is("the shoe stays", x.shoe(0, 4), 0);
    }

    private static void thenTheNextDay() {
        Due.by("Then it is the next DAY.");
        LeftShoes x = Due.told("person a 1 0 0;person b 1 0 0;shoe left 5 0 boot a;law worth 100+day;debt a b 107 7;law wear day;");
        x.on(0);
        x.days(3);
        Due.is("wear of days 0, 1, 2", x.shoe(0, 2), 3);
        x.off(0);
        x.days(4);
        Due.is("day 7 is to come", x.debt(0, 4), 0);
        x.days(1);
        Due.is("worth of day 7", x.debt(0, 4), 1);
        Due.is("day 8", x.count(5), 8);
    }

    // ---- mint

    private static void mintByAtMostK() {
        Due.by("by which each of these prices is made by at most k fresh left boots of the BANK of these SIZES (as many of one as one likes).");
        LeftShoes x = Due.told("law worth size=1;");
        for (int k = 1; k <= 5; k++) {
            Due.is(k + " by " + k, x.mint(k, k), 1);
            Due.is(k + 1 + " by " + k, x.mint(k + 1, k), -2);
        }
        x = Due.told("law worth (size=1)+(size=3)*3;");
        Due.is("each of 1, 2, 3, 4 by two", x.mint(4, 2), 0b101);
        Due.is("no 5 by two", x.mint(5, 2), -2);
        x = Due.told("law worth (used=0)*left*(sort=0)*(steps=0)*(foot=0)*size;");
        Due.is("fresh left boots of the bank", x.mint(2, 1), 0b11);
        x = Due.told("person a 5 5 5;shoe right 9 9 felt a;law worth 1+used+sort+steps+foot+day+1-left;");
        Due.is("another shoe just ahead of it", x.law(0, 0, 0), 1 + 9 + 2 + 5 + 5 + 0 + 1);
        Due.is("nothing else", x.mint(5, 5), 1);
        x.days(1);
        Due.is("the day as it is", x.mint(5, 5), -2);
        x = Due.told("law worth (size=2)/(size-1);");
        Due.is("with an error size 1 is worth 2, as without a law", x.mint(2, 1), 0b11);
        // A price of 1 is not made by what is worth 65, nor 2 by 66, nor by nothing.
        for (String law : new String[] {"64+size", "63+size", "65", "128+size", "999", "0", "size-1"}) {
            Due.is("law worth " + law, Due.told("law worth " + law + ";").mint(1, 5), law.equals("size-1") ? 0b10 : -2);
        }
    }

    private static void mintSizes() {
        Due.by("the fewest SIZES 1 .. 10 (bits, the lowest 1;");
        for (int size = 1; size <= 10; size++) Due.is("size " + size, Due.told("law worth size=" + size + ";").mint(5, 5), 1 << size - 1);
        Due.is("size 0", Due.told("law worth size=0;").mint(1, 1), -2);
        Due.is("size 11", Due.told("law worth size=11;").mint(1, 1), -2);
        Due.is("all ten", Due.told("law worth size;").mint(10, 1), 1023);
        Due.is("an eleventh", Due.told("law worth size;").mint(11, 1), -2);
        // Three low ones make it, too, but two are fewer: 1 and 3 rather than 1, 4 and 5.
        LeftShoes x = Due.told("law worth (size=1)+(size=2)*4+(size=3)*5+(size=4)*3;");
        Due.is("the fewest", x.mint(7, 3), 0b1001);
        x = Due.told("law worth (size=1)+(size=2)*4+(size=3)*5;");
        Due.is("three, if there are no two", x.mint(7, 3), 0b111);
    }

    private static void mintLeastBits() {
        Due.by("of several the least bits) by which");
        Due.is("1 and 2 rather than 1 and 3", Due.told("law worth size;").mint(4, 2), 0b11);
        Due.is("9 rather than 10", Due.told("law worth size>8;").mint(3, 3), 0b100000000);
        Due.is("all alike", Due.told("law worth 1;").mint(1, 1), 1);
    }

    // ---- pairs

    private static void partners(LeftShoes x, int sum, int... due) {
        Due.is("pairs", x.pairs(), sum);
        for (int i = 0; i < due.length; i++) Due.is("partner(" + i + ")", x.partner(i), due[i]);
    }

    private static void pairsOutOfTheGrave() {
        Due.by("PAIRS: left and right SHOES not in the GRAVE, each in one PAIR at most");
        LeftShoes x = Due.told("person a 1 10 0;shoe left 3 48 boot a;shoe left 3 0 boot a;shoe right 3 0 boot a;");
        x.on(0);
        x.days(1);
        partners(x, 10, 2, -2, 0);
        x.days(1);
        partners(x, 10, -1, 2, 1);
        partners(Due.told("shoe left 3 0 boot bank;shoe right 3 0 boot bank;shoe right 3 0 boot bank;"), 10, 1, 0, -2);
        partners(Due.told("shoe left 3 0 boot bank;"), 0, -2, -1);
        partners(Due.told("shoe right 3 0 boot bank;"), 0, -2, -1);
        partners(new LeftShoes(), 0, -1);
        LeftShoes sixteen = Due.told("shoe left 3 0 boot bank;".repeat(16));
        Due.is("sixteen left ones", sixteen.pairs(), 0);
        Due.is("none for the last", sixteen.partner(15), -2);
        sixteen = Due.told("shoe right 3 0 boot bank;".repeat(16));
        Due.is("sixteen right ones", sixteen.pairs(), 0);
        Due.is("none for the last right one", sixteen.partner(15), -2);
    }

    private static void greatestSum() {
        Due.by("the greatest sum of PAIR");
        // The left one of 5 makes 5 with each, that of 6 makes 7 with the first right one and 1 with the second.
        String land = "shoe left 5 0 boot bank;shoe left 6 0 boot bank;shoe right 1 0 boot bank;shoe right 1 1 boot bank;";
        partners(Due.told(land + "law pair (size=5)*5+(size=6)*(7-6*used);"), 12, 3, 2, 1, 0);
        partners(Due.told(land + "law pair (size=5)*(5+6*(used=0))+(size=6)*(7-6*used);"), 12, 2, 3, 0, 1);
        partners(Due.told(land + "law pair (size=5)*(5+6*(used=0))+(size=6)*(8-7*used);"), 13, 3, 2, 1, 0);
        LeftShoes x = Due.told("shoe left 1 0 boot bank;".repeat(8) + "shoe right 1 0 boot bank;".repeat(8) + "law pair 1000;");
        Due.is("eight of 999", x.pairs(), 7992);
    }

    private static void leastPartners() {
        Due.by("of several by left SHOES in order the least partner, none last.");
        String left = "shoe left 1 0 boot bank;";
        String right = "shoe right 1 0 boot bank;";
        partners(Due.told(right + right + left + left), 20, 2, 3, 0, 1);
        partners(Due.told(left + right + left + right), 20, 1, 0, 3, 2);
        partners(Due.told(left + left + left + right), 10, 3, -2, -2, 0);
        partners(Due.told(left + right + right + right), 10, 1, 0, -2, -2);
        // Worth nothing together they are partners all the same: none comes last.
        partners(Due.told(left + left + right + right + "law pair 0;"), 0, 2, 3, 0, 1);
        partners(Due.told(left + left + right + "law pair 0;"), 0, 2, -2, 0);
        // The first left one stays alone where that alone makes the greatest sum.
        partners(Due.told("shoe left 2 0 boot bank;" + left + right), 10, -2, 2, 1);
        partners(Due.told(left + "shoe right 2 0 boot bank;" + right), 10, 2, -2, 0);
        // Seven and nine, the most that both sides have, and all that one side has.
        LeftShoes x = Due.told(right.repeat(9) + left.repeat(7));
        for (int i = 0; i < 16; i++) Due.is("partner(" + i + ")", x.partner(i), i < 7 ? i + 9 : i < 9 ? -2 : i - 9);
        x = Due.told(left.repeat(9) + right.repeat(7));
        for (int i = 0; i < 16; i++) Due.is("partner(" + i + ")", x.partner(i), i < 7 ? i + 9 : i < 9 ? -2 : i - 9);
        for (int lefts = 1; lefts <= 15; lefts++) {
            int rights = 16 - lefts;
            x = Due.told(left.repeat(lefts) + right.repeat(rights) + "law pair 999;");
            Due.is("sum of " + lefts, x.pairs(), 999 * Math.min(lefts, rights));
            for (int i : new int[] {0, lefts - 1, lefts, 15}) {
                int due = i < lefts ? i < rights ? lefts + i : -2 : i - lefts < lefts ? i - lefts : -2;
                Due.is("partner(" + i + ") of " + lefts, x.partner(i), due);
            }
            // The last left one alone makes something, with the last right one.
            x = Due.told(left.repeat(lefts - 1) + "shoe left 2 0 boot bank;" + right.repeat(rights - 1) + "shoe right 2 0 boot bank;law pair (size=2)*(left=0);");
            Due.is("sum of the last of " + lefts, x.pairs(), 1);
            Due.is("partner of the last of " + lefts, x.partner(lefts - 1), 15);
        }
    }

    // ---- walk

    private static LeftShoes walker(int fare, int used, String laws) {
        LeftShoes x = Due.told("person a 8 20 " + fare + ";shoe left 9 " + used + " boot a;shoe right 9 " + used + " boot a;" + laws);
        x.on(0);
        return x;
    }

    private static void walks(LeftShoes x, int n, int sum, int bits) {
        Due.is("sum of " + n + " days", x.walk(0, n, 0), sum);
        Due.is("days walked of " + n, x.walk(0, n, 1), bits);
    }

    private static void walkOrFare() {
        Due.by("on each DAY what is worn is worn, or FARE is paid: the least sum of FARES and what WORTH");
        for (int fare = 0; fare <= 6; fare++) {
            // Each day walked takes 3: a fare of 3 is no less, so it is walked; a fare of 2 is less.
            LeftShoes x = walker(fare, 0, "law worth 900-used;law wear 3;");
            for (int n : new int[] {1, 2, 8}) walks(x, n, n * Math.min(3, fare), fare >= 3 ? (1 << n) - 1 : 0);
            x.on(1);
            for (int n : new int[] {1, 8}) walks(x, n, n * Math.min(6, fare), fare >= 6 ? (1 << n) - 1 : 0);
            x.off(0);
            x.off(1);
            walks(x, 8, 0, 255);
        }
    }

    private static void walkTillWornOut() {
        Due.by("on each DAY what is worn is worn");
        LeftShoes x = walker(99, 47, "law worth 60;law wear 1;");
        walks(x, 2, 0, 0b11);
        walks(x, 3, 60, 0b111);
        x = walker(59, 47, "law worth 60;law wear 1;");
        walks(x, 3, 59, 0b011);
        walks(x, 4, 60, 0b1111);
        x = walker(60, 47, "law worth 60;law wear 1;");
        walks(x, 3, 60, 0b111);
        Due.is("nothing is worn by asking", x.shoe(0, 2), 47);
    }

    private static void walkWorthBehindTheLastDay() {
        Due.by("(behind the last DAY, day as it is then, against that of DAYS without walking) is less by");
        // Worth is 100 less day times used: behind two days 2 times what is more used.
        LeftShoes x = walker(99, 0, "law worth 100-day*used;law wear 1;");
        walks(x, 1, 1, 1);
        walks(x, 2, 4, 3);
        walks(x, 8, 64, 255);
        x.days(1);
        walks(x, 1, 2, 1);
        // Without walking it is worth less, too: that is none of what walking takes.
        x = walker(99, 10, "law worth 100-10*day-used;law wear 1;");
        walks(x, 3, 3, 7);
        // The wear is that of each day walked.
        x = walker(5, 0, "law worth 500-used;law wear 4+(day=2)*2;");
        walks(x, 2, 8, 0b11);
        walks(x, 3, 13, 0b011);
        walks(x, 4, 17, 0b1011);
    }

    private static void walkEarly() {
        Due.by("of several walking on the earliest DAYS.");
        // Used 0, 2, 4: two days are free, the third one takes 1; with a fare of 0 it isn't walked.
        LeftShoes x = walker(0, 0, "");
        walks(x, 1, 0, 0b1);
        walks(x, 2, 0, 0b11);
        walks(x, 3, 0, 0b011);
        walks(x, 8, 0, 0b11);
        // With a fare of 1 the third day walked costs as much: it is walked; so are the next four.
        x = walker(1, 0, "");
        walks(x, 3, 1, 0b111);
        walks(x, 4, 1, 0b1111);
        walks(x, 5, 2, 0b11111);
    }

    // ---- halves

    private static LeftShoes halves(int pair) {
        return Due.told("person a 1 1 1;person b 1 1 1;shoe left 8 0 boot a;shoe right 8 0 boot b;law pair " + pair + ";");
    }

    private static void asksFromZeroToNine() {
        Due.by("each asks 0 .. 9; both have what they ask, if that is at most PAIR in sum, else nothing.");
        Due.is("18 is at most 18", halves(18).rests(0, 1), 1);
        Due.is("nine each", halves(18).rest(0, 1, 0), 99);
        Due.is("of 19", halves(19).rest(0, 1, 0), 99);
        Due.is("of 999", halves(999).rests(0, 1), 1);
        Due.is("18 is more than 17", halves(17).rests(0, 1), 2);
        Due.is("first of 17", halves(17).rest(0, 1, 0), 89);
        Due.is("second of 17", halves(17).rest(0, 1, 1), 98);
        Due.is("0 and 9 of 9", halves(9).rest(0, 1, 0), 9);
        Due.is("1 and 9 of 10", halves(10).rest(0, 1, 0), 19);
    }

    private static void neitherWouldHaveMore() {
        Due.by("A REST: neither would have more by another one.");
        // Those that make the pair in sum, and those where both ask so much that the other one can have nothing.
        int[] due = {100, 83, 67, 53, 41, 31, 23, 17, 13, 11, 9, 8, 7, 6, 5, 4, 3, 2, 1, 1};
        for (int pair = 0; pair < due.length; pair++) Due.is("rests of " + pair, halves(pair).rests(0, 1), due[pair]);
        LeftShoes x = halves(8);
        int k = 0;
        for (int a = 0; a <= 9; a++) for (int b = 0; b <= 9; b++) if (a + b == 8 || a >= 8 && b >= 8) Due.is("of 8", x.rest(0, 1, k++), 10 * a + b);
        Due.is("no more of 8", x.rest(0, 1, k), -2);
    }

    private static void restsInOrder() {
        Due.by("RESTS: by the left one's, then the right one's.");
        for (int pair : new int[] {0, 4, 10}) {
            LeftShoes x = halves(pair);
            int n = x.rests(0, 1);
            int last = -1;
            for (int k = 0; k < n; k++) {
                int rest = x.rest(0, 1, k);
                Due.is("rest " + k + " of " + pair + " is behind the one ahead", rest > last && rest <= 99, true);
                last = rest;
            }
            Due.is("no more of " + pair, x.rest(0, 1, n), -2);
        }
    }

    private static void halvesOfTwoPersons() {
        Due.by("HALVES of a left and a right SHOE of two PERSONS, for their PAIR");
        LeftShoes x = Due.told("person a 1 1 1;person b 1 1 1;shoe left 8 0 boot a;shoe right 8 0 boot b;");
        Due.is("of two", x.rests(0, 1), 9);
        x.give(1, 0);
        Due.is("of one", x.rests(0, 1), -1);
        x.give(0, 1);
        Due.is("of two again", x.rests(0, 1), 9);
        x.give(0, -1);
        Due.is("the bank's left one", x.rests(0, 1), -1);
        x.give(0, 1);
        x.give(1, -1);
        Due.is("the bank's right one", x.rests(0, 1), -1);
    }

    // ---- run

    private static LeftShoes bank(int shoes, int... claims) {
        StringBuilder b = new StringBuilder();
        for (int i = 0; i < claims.length; i++) b.append("person ").append((char) ('a' + i)).append(" 1 0 0;");
        for (int i = 0; i < claims.length; i++) if (claims[i] > 0) b.append("claim ").append((char) ('a' + i)).append(' ').append(claims[i]).append(';');
        return Due.told(b + "shoe left 1 0 boot bank;".repeat(shoes));
    }

    private static void moreThanHalf() {
        Due.by("each round those run, too, whose CLAIM is more than half of what is LEFT");
        for (int claim = 1; claim <= 8; claim++) {
            Due.is(claim + " of " + 2 * claim, bank(2 * claim, claim).run(0), 0);
            Due.is(claim + " of " + (2 * claim - 1), bank(2 * claim - 1, claim).run(0), 1);
        }
        Due.is("9 of 16", bank(16, 9).run(0), 1);
        Due.is("1 of 1", bank(1, 1).run(0), 1);
        Due.is("1 of none", bank(0, 1).run(0), 1);
        Due.is("without a claim of none", bank(0, 0).run(0), 0);
    }

    private static void nobodyAtFirst() {
        Due.by("RUN of some PERSONS with CLAIMS (0 of them, too)");
        Due.is("nobody", bank(9, 4, 4).run(0), 0);
        Due.is("nobody at first, but one then", bank(7, 4, 1).run(0), 0b01);
        Due.is("nobody at first, but all then", bank(7, 4, 2).run(0), 0b11);
        Due.is("one", bank(16, 1, 1).run(0b01), 0b01);
        Due.is("all", bank(16, 1, 1).run(0b11), 0b11);
    }

    private static void leftAtLeastZero() {
        Due.by("(LEFT: how many there are less what all who run CLAIM, 0 at least)");
        Due.is("0 left, without a claim", bank(3, 9, 0).run(1), 1);
        Due.is("less than 0 would be left", bank(3, 9, 1).run(1), 0b11);
        Due.is("2 left for 1", bank(11, 9, 1).run(1), 0b01);
        Due.is("1 left for 1", bank(10, 9, 1).run(1), 0b11);
    }

    private static void tillNobodyMore() {
        Due.by("all by what is LEFT ahead of it: till nobody more does.");
        // 16 less 9 are 7, 4 is more than its half; 3, 2 is; 1, 1 is: one a round.
        Due.is("one a round", bank(16, 1, 2, 4, 9).run(0b1000), 0b1111);
        Due.is("five, one a round", bank(16, 8, 5, 2, 1, 1).run(0b00001), 0b11111);
        Due.is("it ends at half", bank(16, 1, 2, 4, 8).run(0b1000), 0b1000);
        Due.is("it ends below half later", bank(15, 1, 1, 4, 8).run(0b1000), 0b1100);
        Due.is("it ends at half later", bank(16, 1, 5, 9).run(0b100), 0b110);
        Due.is("two at once by what is left ahead", bank(5, 3, 3, 1).run(0), 0b111);
    }

    private static void fewestThatSave() {
        Due.by("SAVE: the fewest SHOES more in the BANK by which nobody but these runs.");
        String land = "person a 1 0 0;person b 1 0 0;person c 1 0 0;claim a 2;claim b 3;claim c 1;" + "shoe left 1 0 boot a;".repeat(12) + "shoe left 1 0 boot bank;";
        for (int persons = 0; persons < 8; persons++) {
            LeftShoes x = Due.told(land);
            int more = x.save(persons);
            for (int i = 0; i < more; i++) {
                Due.is("run of " + persons + " with " + i + " more is more", x.run(persons) != persons, true);
                x.give(i, -1);
            }
            Due.is("run of " + persons + " with " + more + " more", x.run(persons), persons);
            Due.is("nothing more saves " + persons, x.save(persons), 0);
        }
        Due.is("6 for 3", Due.told(land).save(0), 5);
        Due.is("all run", Due.told(land).save(7), 0);
        Due.is("nobody else has a claim", bank(0, 9, 0).save(1), 0);
        Due.is("18 for 9 in an empty bank", bank(0, 9).save(0), 18);
        Due.is("36 of all claimed and 18", bank(0, 9, 9, 9, 9, 9).save(0b01111), 54);
        Due.is("2 too many already", bank(4, 1).save(0), 0);
        Due.is("just enough", bank(2, 1).save(0), 0);
        Due.is("one too few", bank(1, 1).save(0), 1);
    }

    // ---- tracks

    private static void twentyFourTracks() {
        Due.by("TRACKS, at most 24, numbered from 0 on: of a SIDE a print of a SIZE.");
        LeftShoes x = new LeftShoes();
        for (int i = 0; i < 24; i++) Due.is("track " + i, x.track(i % 2, i % 20 + 1), i);
        Due.is("a 25th", x.track(0, 1), -1);
        Due.is("24", x.count(11), 24);
        LeftShoes y = new LeftShoes();
        y.track(0, 1);
        for (int i = 1; i < 24; i++) Due.is("strike " + i, y.strike(i - 1), i);
        Due.is("a 25th strike", y.strike(0), -1);
        Due.is("a 25th track", y.track(0, 1), -1);
        Due.is("24 of these", y.count(11), 24);
    }

    private static void struckStrikes() {
        Due.by("KNOWN by n (all at first): the first n that aren't STRUCK by one of these (a STRIKE may be STRUCK: then it doesn't count; asked from the last one on).");
        LeftShoes x = Due.told("person a 5 0 0;person b 6 0 0;");
        x.track(0, 5);
        Due.is("known", x.who(), 0b01);
        // A chain of strikes: each makes the track known, or not, in turn.
        for (int i = 1; i < 24; i++) {
            x.strike(i - 1);
            Due.is("with " + i + " strikes", x.who(), i % 2 == 1 ? 0b11 : 0b01);
        }
        for (int n = 0; n <= 24; n++) {
            x.known(n);
            Due.is("known by " + n, x.who(), n == 0 || n % 2 == 0 ? 0b11 : 0b01);
        }
        Due.is("no 25th", x.known(25), false);
    }

    private static void whoFits() {
        Due.by("WHO: PERSONS (bits) whose every KNOWN one fits: on that SIDE they wear a SHOE of that SIZE, or none, and it is their FOOT.");
        for (int side = 0; side < 2; side++) {
            LeftShoes x = Due.told("person a 20 0 0;person b 1 0 0;shoe left 1 0 boot a;shoe right 1 0 boot a;");
            x.track(side, 20);
            Due.is("bare, its foot", x.who(), 0b01);
            x.on(1 - side);
            Due.is("a shoe on the other side", x.who(), 0b01);
            x.on(side);
            Due.is("a shoe of 1", x.who(), 0);
            x = Due.told("person a 20 0 0;person b 1 0 0;shoe left 1 0 boot a;shoe right 1 0 boot a;");
            x.track(side, 1);
            Due.is("foot of b", x.who(), 0b10);
            x.on(side);
            Due.is("shoe of a", x.who(), 0b11);
            x.track(side, 2);
            Due.is("every one must fit", x.who(), 0);
        }
        Due.is("without tracks", Due.told("person a 20 0 0;person b 1 0 0;").who(), 0b11);
        Due.is("without persons", new LeftShoes().who(), 0);
    }

    private static void tellsOneAtLeast() {
        Due.by("TELLS: the SIDE and SIZE 1 .. 20 of one more TRACK that would leave one at least of WHO, and the fewest;");
        for (int foot : new int[] {1, 20}) {
            LeftShoes x = Due.told("person a " + foot + " 0 0;");
            Due.is("side", x.tells(0), 0);
            Due.is("size", x.tells(1), foot);
            Due.is("leaves", x.tells(2), 1);
        }
        LeftShoes x = Due.told("person a 5 0 0;person b 5 0 0;person c 6 0 0;");
        Due.is("the fewest", x.tells(1), 6);
        Due.is("leaves one", x.tells(2), 1);
        x.track(0, 5);
        Due.is("both of them", x.tells(2), 2);
        Due.is("by 5", x.tells(1), 5);
        x.track(0, 6);
        for (int what = 0; what <= 2; what++) Due.is("nobody is left: " + what, x.tells(what), -2);
        Due.is("five alike", Due.told("person a 5 0 0;person b 5 0 0;person c 5 0 0;person d 5 0 0;person e 5 0 0;").tells(2), 5);
    }

    private static void tellsTheFirst() {
        Due.by("of several the first by SIDES (left 0), SIZES.");
        LeftShoes x = Due.told("person a 7 0 0;person b 6 0 0;shoe left 7 0 boot b;shoe right 3 0 boot a;shoe left 9 0 boot a;");
        Due.is("6 ahead of 7", x.tells(1), 6);
        x.on(0);
        Due.is("both print left 7: the right side", x.tells(0), 1);
        Due.is("right 6 ahead of right 7", x.tells(1), 6);
        x.on(1);
        Due.is("right 3 ahead of right 6", x.tells(1), 3);
        x.on(2);
        Due.is("left ahead of right", x.tells(0), 0);
        Due.is("left 7 ahead of left 9", x.tells(1), 7);
    }

    // ---- rings

    private static void ringThatGains() {
        Due.by("unlike, that make more than there was: the shortest");
        Due.is("no rates", new LeftShoes().ring(), -2);
        Due.is("as much", Due.told("swap boot left 2 felt left 3;swap felt left 3 boot left 2;").ring(), -2);
        Due.is("as much by other numbers", Due.told("swap boot left 2 felt left 3;swap felt left 99 boot left 66;").ring(), -2);
        Due.is("more by a little", Due.told("swap boot left 2 felt left 3;swap felt left 99 boot left 67;").ring(), 2);
        Due.is("less by a little", Due.told("swap boot left 2 felt left 3;swap felt left 99 boot left 65;").ring(), -2);
        Due.is("not closed", Due.told("swap boot left 1 felt left 99;swap felt left 1 felt right 99;").ring(), -2);
        String[] goods = {"boot left", "boot right", "sandal left", "sandal right", "felt left", "felt right"};
        for (int n = 2; n <= 6; n++) {
            StringBuilder b = new StringBuilder();
            for (int i = 0; i < n - 1; i++) b.append("swap ").append(goods[i]).append(" 99 ").append(goods[i + 1]).append(" 99;");
            String last = "swap " + goods[n - 1];
            Due.is(n + " goods that make as much", Due.told(b + last + " 99 boot left 99;").ring(), -2);
            Due.is(n + " goods that make more", Due.told(b + last + " 98 boot left 99;").ring(), n);
            Due.is(n + " goods that make less", Due.told(b + last + " 99 boot left 98;").ring(), -2);
        }
        // A gain of two goods that is gone round twice would gain more, but is no longer ring.
        LeftShoes x = Due.told("swap boot left 1 boot right 1;swap boot right 1 sandal left 1;swap sandal left 1 boot left 2;swap boot right 1 boot left 2;");
        Due.is("two rather than three", x.ring(), 2);
        x = Due.told("swap boot left 1 boot right 1;swap boot right 1 sandal left 1;swap sandal left 1 boot left 2;swap boot right 1 boot left 1;");
        Due.is("three, if two make no more", x.ring(), 3);
    }

    private static void ringByGoods() {
        Due.by("of several the first by GOODS from the least of it on.");
        LeftShoes x = Due.told("swap felt right 1 sandal right 2;swap sandal right 1 felt right 1;swap felt left 1 sandal right 2;swap sandal right 1 felt left 1;");
        Due.is("two", x.ring(), 2);
        Due.is("the least", x.good(0), 3);
        Due.is("4 ahead of 5", x.good(1), 4);
        x = Due.told("swap boot left 1 felt left 2;swap felt left 1 boot right 2;swap boot right 1 boot left 2;swap boot left 1 felt right 2;swap felt right 1 sandal left 2;"
            + "swap sandal left 1 boot left 2;");
        Due.is("three", x.ring(), 3);
        Due.is("0", x.good(0), 0);
        Due.is("4 ahead of 5 behind the same one", x.good(1), 4);
        Due.is("1, though behind 4", x.good(2), 1);
        Due.is("no fourth", x.good(3), -2);
    }

    private static void goodsByNumber() {
        Due.by("RING: GOODS (0 .. 5: KIND times 2, and 1 of right ones)");
        String[] goods = {"boot left", "boot right", "sandal left", "sandal right", "felt left", "felt right"};
        for (int i = 0; i < 6; i++) for (int j = i + 1; j < 6; j++) {
            LeftShoes x = Due.told("swap " + goods[j] + " 1 " + goods[i] + " 2;swap " + goods[i] + " 1 " + goods[j] + " 1;");
            Due.is("least of " + goods[i] + " and " + goods[j], x.good(0), i);
            Due.is("other of " + goods[i] + " and " + goods[j], x.good(1), j);
        }
    }

    // ---- years by chance

    private static BigInteger state;

    private static int number() {
        state = state.multiply(BigInteger.valueOf(1103515245)).add(BigInteger.valueOf(12345)).mod(BigInteger.TWO.pow(31));
        return state.divide(BigInteger.valueOf(65536)).intValueExact();
    }

    // In how many of ten years of n days a first shoe of that use, worn without steps, is not in the grave; among so many shoes.
    private static int alive(int seed, int n, int used, int shoes) {
        state = BigInteger.valueOf(seed);
        int years = 0;
        for (int year = 0; year < 10; year++) {
            int then = used;
            boolean lost = false;
            for (int day = 0; day < n; day++) {
                int luck = number() % 3;
                if (luck == 0) then += 5;
                if (luck == 1) lost |= number() % shoes == 0;
                lost |= then >= 50;
            }
            if (!lost) years++;
        }
        return years;
    }

    private static LeftShoes lucky(int used, int shoes) {
        LeftShoes x = Due.told("person a 1 0 0;person b 1 0 0;shoe left 1 " + used + " boot a;" + "shoe right 1 0 boot b;".repeat(shoes - 1) + "law worth 10;");
        x.on(0);
        return x;
    }

    private static void mud() {
        Due.by("0 MUD: all SHOES worn are 5 more USED (as of wear)");
        for (int seed : new int[] {0, 1, 2, 3, 4, 5, 99999, 2147483647}) {
            for (int used : new int[] {0, 34, 35, 39, 40, 44, 45, 49}) {
                LeftShoes x = lucky(used, 7);
                for (int n : new int[] {1, 2, 3, 30}) Due.is("seed " + seed + " used " + used + " days " + n, x.chance(seed, n, 0, 10), alive(seed, n, used, 7));
            }
        }
        LeftShoes x = lucky(49, 16);
        x.off(0);
        Due.is("not worn: it can be lost, but mud doesn't reach it", x.chance(0, 1, 0, 10) > alive(0, 1, 49, 16), true);
    }

    private static void daysOfAYear() {
        Due.by("A YEAR by chance of n DAYS: ahead of each DAY a number modulo 3");
        // b's shoe is worn by its steps and by mud, and is paid to a on the second day, if a debt fits its worth.
        for (int seed = 0; seed < 30; seed++) {
            LeftShoes x = Due.told("person a 1 0 0;person b 1 10 0;shoe left 9 40 boot b;law worth 60-used+day;debt b a 20 1;debt b a 15 1;debt b a 10 1;");
            x.on(0);
            state = BigInteger.valueOf(seed);
            int[] has = new int[10];
            for (int year = 0; year < 10; year++) {
                int used = 40;
                boolean gone = false;
                int whose = 1;
                for (int day = 0; day < 3; day++) {
                    int luck = number() % 3;
                    if (luck == 0 && whose == 1) used += 5;
                    if (luck == 1) {
                        number();
                        gone = true;
                    }
                    if (whose == 1 && used < 50) used += 1;
                    if (used >= 50) gone = true;
                    int worth = 60 - used + day;
                    if (day == 1 && !gone && (worth == 20 || worth == 15 || worth == 10)) whose = 0;
                }
                has[year] = !gone && whose == 0 ? 60 - used + 3 : 0;
            }
            for (int bound = 0; bound <= 24; bound++) {
                int due = 0;
                for (int h : has) if (h >= bound) due++;
                Due.is("seed " + seed + " bound " + bound, x.chance(seed, 3, 0, bound), due);
            }
        }
    }

    private static void mudOfAllFeet() {
        Due.by("all SHOES worn are 5 more USED");
        LeftShoes x = fiveLand();
        for (int seed = 0; seed < 20; seed++) {
            state = BigInteger.valueOf(seed);
            int[] worths = new int[10];
            int[] dry = new int[10];
            for (int year = 0; year < 10; year++) {
                int luck = number() % 3;
                int lostOne = luck == 1 ? number() % 10 : -1;
                // e's are shoes 4 and 9, worn 5 a day.
                worths[year] = (lostOne == 4 ? 0 : 100 - 5 - (luck == 0 ? 5 : 0)) + (lostOne == 9 ? 0 : 100 - 5 - (luck == 0 ? 5 : 0));
                dry[year] = lostOne == 0 ? 0 : 100 - 1 - (luck == 0 ? 5 : 0);
                dry[year] += lostOne == 5 ? 0 : 100 - 1 - (luck == 0 ? 5 : 0);
            }
            for (int bound : new int[] {90, 91, 95, 96, 180, 181, 190, 191}) {
                int due = 0;
                for (int w : worths) if (w >= bound) due++;
                Due.is("e by seed " + seed + ", " + bound, x.chance(seed, 1, 4, bound), due);
            }
            for (int bound : new int[] {94, 99, 188, 189, 198, 199}) {
                int due = 0;
                for (int w : dry) if (w >= bound) due++;
                Due.is("a by seed " + seed + ", " + bound, x.chance(seed, 1, 0, bound), due);
            }
        }
    }

    private static void lost() {
        Due.by("1 a number modulo how many SHOES there are: that one is lost (in the GRAVE)");
        for (int shoes = 1; shoes <= 16; shoes++) {
            LeftShoes x = lucky(0, shoes);
            for (int seed = 0; seed < 12; seed++) Due.is("of " + shoes + " by seed " + seed, x.chance(seed, 3, 0, 10), alive(seed, 3, 0, shoes));
        }
        // A shoe in the grave is one of how many there are, still.
        LeftShoes x = Due.told("person a 1 99 0;person b 1 0 0;shoe left 1 0 boot b;shoe left 1 49 boot a;law worth 10;");
        x.on(0);
        x.on(1);
        x.days(1);
        Due.is("one is in the grave", x.count(6), 1);
        for (int seed = 0; seed < 12; seed++) Due.is("with a grave by seed " + seed, x.chance(seed, 3, 1, 10), alive(seed, 3, 0, 2));
        x = Due.told("person a 1 0 0;");
        Due.is("no shoes at all", x.chance(1, 30, 0, 0), 10);
    }

    private static void numbersWrapAround() {
        Due.by("Numbers are the last one (at first the seed) times 1103515245 and 12345, without what is above 31 bits, by 65536.");
        for (int seed : new int[] {0, 1, 32767, 32768, 65535, 65536, 99999, 1 << 30, 2147483646, 2147483647}) {
            LeftShoes x = lucky(30, 11);
            for (int n = 1; n <= 30; n += n < 5 ? 1 : 5) Due.is("seed " + seed + " days " + n, x.chance(seed, n, 0, 10), alive(seed, n, 30, 11));
        }
    }

    // ---- tried

    private static LeftShoes land() {
        LeftShoes x = Due.told("person a 1 10 0;person b 1 20 0;shoe left 9 0 boot a;shoe right 9 0 boot b;shoe right 9 40 boot a;law worth 100*left+50-used;debt a b 148 1;");
        x.on(0);
        x.on(1);
        return x;
    }

    private static void triedThese() {
        Due.by("TRIED for n DAYS from now: 0 nobody walks, 1 no DEBTS, 2 PERSON i is barefoot, 3 SHOE i is in the GRAVE, 4 all SHOES are left: all WORTH then.");
        LeftShoes x = land();
        Due.is("now", x.count(8), 150 + 50 + 10);
        for (int what : new int[] {0, 1, 4}) Due.is(what + " for no days", x.tried(what, 0, 0), what == 4 ? 410 : 210);
        Due.is("nobody walks", x.tried(0, 0, 3), 210);
        // a's left one is used 1, 2 and is paid on day 1, b's right one is used 2, 4, 6.
        Due.is("no debts: it is worn on", x.tried(1, 0, 3), 147 + 44 + 10);
        Due.is("a is barefoot", x.tried(2, 0, 3), 150 + 44 + 10);
        Due.is("b is barefoot: the left one is worn till day 1", x.tried(2, 1, 3), 148 + 50 + 10);
        Due.is("the first is in the grave", x.tried(3, 0, 3), 44 + 10);
        Due.is("the last is in the grave", x.tried(3, 2, 3), 148 + 44);
        Due.is("all are left", x.tried(4, 0, 3), 148 + 144 + 110);
        Due.is("nothing came of it", x.count(8), 210);
        Due.is("no day went by", x.count(5), 0);
        x.days(3);
        Due.is("as it came", x.count(8), 148 + 44 + 10);
        // Worth is by whose foot it is: it tells whether the debt was paid, and nothing but what is tried is otherwise.
        x = Due.told("person a 1 10 0;person b 20 20 0;shoe left 9 0 boot a;law worth 100*(foot=20)+50-used+size;debt a b 57 1;");
        x.on(0);
        Due.is("worn twice, paid", x.tried(2, 1, 2), 100 + 50 - 2 + 9);
        Due.is("nobody walks: 59 is not 57, not paid", x.tried(0, 0, 2), 59);
        x = Due.told("person a 1 10 0;person b 20 20 0;shoe left 9 0 boot a;law worth 100*(foot=20)+50-used+size;debt a b 59 1;");
        x.on(0);
        Due.is("worn twice: 57 is not 59, not paid", x.tried(2, 1, 2), 57);
        Due.is("nobody walks, but debts are paid", x.tried(0, 0, 2), 159);
        Due.is("no debts, but it is worn", x.tried(1, 0, 2), 57);
        Due.is("a is barefoot, but debts are paid", x.tried(2, 0, 2), 159);
        Due.is("the shoe is in the grave: nothing is paid", x.tried(3, 0, 2), 0);
        Due.is("steps are as told, though nobody walks", Due.told("person a 1 10 0;shoe left 9 0 boot a;law worth steps;").tried(0, 0, 1), 10);
        x = Due.told("shoe right 1 0 boot bank;" + "shoe left 1 0 boot bank;".repeat(14) + "shoe right 1 0 boot bank;law worth 2*left;");
        Due.is("the first and the last are right ones", x.count(8), 28);
        Due.is("left ones then", x.tried(4, 0, 0), 32);
    }

    // ---- undone, images

    private static void undoneTheLatestFirst() {
        Due.by("Paying, giving, putting on, off by call can be undone, the latest first (20 at most), if no DAY went by since.");
        LeftShoes x = Due.told("person a 1 0 0;person b 1 0 0;shoe left 5 0 boot a;");
        for (int i = 1; i <= 20; i++) {
            x.give(0, i % 2);
            Due.is("can be undone", x.count(13), i);
        }
        String ahead = Due.standing(x);
        x.give(0, 1);
        Due.is("20 at most", x.count(13), 20);
        Due.is("undone", x.undo(), 19);
        Due.same("as ahead of it, but for the one forgotten", Due.standing(x).replace(" 19 |", " 20 |"), ahead);
        for (int i = 18; i >= 0; i--) {
            Due.is("undone", x.undo(), i);
            Due.is("whose", x.shoe(0, 4), (i + 1) % 2);
        }
        Due.is("the first is forgotten", x.undo(), -1);
        Due.is("and stays", x.shoe(0, 4), 1);
        x.give(0, 0);
        x.days(0);
        Due.is("no day went by", x.undo(), 0);
        x.give(0, 0);
        x.days(1);
        Due.is("a day went by", x.undo(), -1);
        Due.is("it stays", x.shoe(0, 4), 0);
    }

    private static void eachKindIsUndone() {
        Due.by("Paying, giving, putting on, off by call can be undone");
        LeftShoes x = Due.told("person a 1 0 0;person b 1 0 0;shoe left 5 0 boot a;shoe left 6 0 boot a;law worth size;");
        List<String> stood = new java.util.ArrayList<>();
        stood.add(Due.standing(x));
        x.on(0);
        stood.add(Due.standing(x));
        x.on(1);
        stood.add(Due.standing(x));
        x.off(1);
        stood.add(Due.standing(x));
        x.on(0);
        stood.add(Due.standing(x));
        x.pay(0, 1, 5);
        stood.add(Due.standing(x));
        x.on(0);
        stood.add(Due.standing(x));
        x.give(0, -1);
        for (int i = 6; i >= 0; i--) {
            Due.is("left", x.undo(), i);
            Due.same("as it stood ahead of " + i, Due.standing(x), stood.get(i));
        }
    }

    private static void imageOfAllButTracks() {
        Due.by("An IMAGE keeps all but TRACKS.");
        LeftShoes x = land();
        x.days(1);
        x.track(0, 1);
        String stood = Due.standing(x);
        x.keep();
        x.days(1);
        x.give(2, -1);
        x.off(1);
        x.days(20);
        Due.is("back", x.back(), 1);
        Due.same("as it stood", Due.standing(x), stood);
        x.track(1, 20);
        x.known(1);
        x.back();
        Due.is("tracks stay", x.count(11), 2);
        Due.is("and what is known", x.count(12), 1);
    }
}
