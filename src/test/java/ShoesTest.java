import java.util.NoSuchElementException;

/** Promises 6 to 10: shoes, persons, debts, pairs, laws. */
public final class ShoesTest {
    private static final String LAND = "person a 8 20 3;person b 9 50 5;shoe left 8 10 boot a;shoe right 8 5 boot b;"
        + "shoe left 5 4 felt a;shoe right 4 0 sandal bank;shoe left 2 49 boot a;shoe right 8 49 boot a;debt b a 14 1;debt a b 999 99;";

    public static void main(String[] args) {
        shoes();
        persons();
        debts();
        pairs();
        worthByLaw();
        values();
        namesOfAShoe();
        lawOfWhat();
        Due.end();
    }

    private static void throwsAt(LeftShoes x, int shoe, int what, int kind) {
        int got = 0;
        try {
            x.shoe(shoe, what);
        } catch (IndexOutOfBoundsException e) {
            got = 1;
        } catch (NoSuchElementException e) {
            got = 2;
        }
        Due.is("shoe(" + shoe + ", " + what + ") throws", got, kind);
    }

    private static void shoes() {
        LeftShoes x = Due.told(LAND);
        int[][] due = {{0, 8, 10, 0, 0, 14, 0}, {1, 8, 5, 0, 1, 7, 0}, {0, 5, 4, 2, 0, 10, 0}, {1, 4, 0, 1, -1, 4, 0},
            {0, 2, 49, 0, 0, 0, 0}, {1, 8, 49, 0, 0, 0, 0}};
        for (int s = 0; s < due.length; s++) for (int what = 0; what <= 6; what++) Due.is("shoe(" + s + ", " + what + ")", x.shoe(s, what), due[s][what]);
        throwsAt(x, 6, 0, 1);
        throwsAt(x, -1, 0, 1);
        throwsAt(x, Integer.MAX_VALUE, 99, 1);
        throwsAt(x, 0, 7, 2);
        throwsAt(x, 0, -1, 2);
        throwsAt(new LeftShoes(), 0, 0, 1);
        x.on(0);
        Due.is("worn", x.shoe(0, 6), 1);
        x.on(5);
        x.days(1);
        Due.is("in the grave", x.shoe(5, 4), -2);
        Due.is("used in the grave", x.shoe(5, 2), 51);
        Due.is("worth in the grave", x.shoe(5, 5), 0);
        Due.is("not worn in the grave", x.shoe(5, 6), 0);
        Due.is("side in the grave", x.shoe(5, 0), 1);
    }

    private static void persons() {
        LeftShoes x = Due.told(LAND);
        Due.is("barefoot", x.person(0, 0), -1);
        x.on(2);
        x.on(5);
        x.on(1);
        int[][] due = {{2, 5, 24, 4, 0b110101}, {-1, 1, 7, 1, 0b10}};
        for (int p = 0; p < 2; p++) for (int what = 0; what <= 4; what++) Due.is("person(" + p + ", " + what + ")", x.person(p, what), due[p][what]);
        Due.is("no such person", x.person(2, 2), -1);
        Due.is("person below 0", x.person(-1, 2), -1);
        Due.is("no such what", x.person(0, 5), -1);
        Due.is("what below 0", x.person(0, -1), -1);
    }

    private static void debts() {
        LeftShoes x = Due.told(LAND);
        int[][] due = {{1, 0, 14, 1, 0}, {0, 1, 999, 99, 0}};
        for (int d = 0; d < 2; d++) for (int what = 0; what <= 4; what++) Due.is("debt(" + d + ", " + what + ")", x.debt(d, what), due[d][what]);
        Due.is("no such debt", x.debt(2, 0), -1);
        Due.is("debt below 0", x.debt(-1, 0), -1);
        Due.is("no such what", x.debt(0, 5), -1);
        Due.is("what below 0", x.debt(0, -1), -1);
        x.days(1);
        Due.is("to come", x.debt(0, 4), 0);
        x.days(1);
        Due.is("refused", x.debt(0, 4), 2);
        x = Due.told("person a 1 1 1;person b 1 1 1;shoe left 7 0 boot b;debt b a 14 0;");
        x.days(1);
        Due.is("paid", x.debt(0, 4), 1);
    }

    private static void pairs() {
        LeftShoes x = Due.told(LAND);
        Due.is("alike", x.pair(0, 1), 10);
        Due.is("unlike sizes", x.pair(4, 1), 0);
        Due.is("the same person's", x.pair(0, 5), 10);
        Due.is("the bank's", x.pair(2, 3), 0);
        Due.is("the other way round", x.pair(1, 0), -1);
        Due.is("two left ones", x.pair(0, 2), -1);
        Due.is("two right ones", x.pair(1, 3), -1);
        Due.is("no such left one", x.pair(6, 1), -1);
        Due.is("no such right one", x.pair(0, -1), -1);
        x.on(5);
        x.days(1);
        Due.is("one in the grave", x.pair(0, 5), -1);
        x = Due.told("shoe left 8 1 boot bank;shoe right 8 1 felt bank;");
        Due.is("unlike kinds", x.pair(0, 1), 0);
        x = Due.told("shoe left 8 3 felt bank;shoe right 5 4 boot bank;law pair left*1000+used*100+size*10+sort;");
        Due.is("law of a pair", x.law(2, 0, 1), 3000 + 700 + 80 + 2);
        Due.is("at most 999", x.pair(0, 1), 999);
        x = Due.told("person a 3 4 5;shoe left 5 3 felt a;shoe right 8 4 boot a;law pair steps+foot+day+left;");
        Due.is("how unlike, by no sign; no steps, no foot", x.law(2, 0, 1), 3);
        x.days(4);
        Due.is("day", x.pair(0, 1), 7);
        x = Due.told("shoe left 8 3 felt bank;shoe right 8 4 felt bank;law pair 1/left;");
        Due.is("an error", x.pair(0, 1), 10);
        x = Due.told("shoe left 8 3 felt bank;shoe right 8 4 felt bank;law pair 0-5;");
        Due.is("0 at least", x.pair(0, 1), 0);
        Due.is("the law below 0", x.law(2, 0, 1), -5);
    }

    private static void worthByLaw() {
        LeftShoes x = Due.told("shoe left 8 3 felt bank;law worth size*1000;");
        Due.is("at most", x.shoe(0, 5), 999);
        Due.is("the law itself", x.law(0, 0, 0), 8000);
        x = Due.told("shoe left 8 3 felt bank;law worth 0-size;");
        Due.is("at least", x.shoe(0, 5), 0);
        Due.is("the law itself", x.law(0, 0, 0), -8);
        x = Due.told("shoe left 8 12 felt bank;shoe right 8 12 felt bank;law worth 5/0;");
        Due.is("error: left", x.shoe(0, 5), 14);
        Due.is("error: right", x.shoe(1, 5), 6);
        Due.is("the law itself", x.law(0, 0, 0), Long.MIN_VALUE);
    }

    private static void value(String e, long want) {
        Due.is(e, Due.told("shoe left 8 3 felt bank;law worth " + e + ";").law(0, 0, 0), want);
    }

    private static void values() {
        long error = Long.MIN_VALUE;
        value("1+2*3", 7);
        value("(1+2)*3", 9);
        value("9-3-2", 4);
        value("100/5/2", 10);
        value("100/(5/2)", 50);
        value("7/2", 3);
        value("(0-7)/2", -3);
        value("7/(0-2)", -3);
        value("2*3/4*5", 5);
        value("1<2", 1);
        value("2<2", 0);
        value("2<=2", 1);
        value("3<=2", 0);
        value("2=2", 1);
        value("2=3", 0);
        value("2<>3", 1);
        value("2<>2", 0);
        value("2>=2", 1);
        value("2>=3", 0);
        value("3>2", 1);
        value("2>2", 0);
        value("1+1=2", 1);
        value("not 0", 1);
        value("not 7", 0);
        value("not not 7", 1);
        value("not 1=2", 1);
        value("not 0+1", 0);
        value("5 and 7", 1);
        value("1 and 1", 1);
        value("1 and 0", 0);
        value("0 and 1", 0);
        value("0 or 1", 1);
        value("1 or 0", 1);
        value("5 and 0", 0);
        value("0 or 9", 1);
        value("0 or 0", 0);
        value("1 or 0 and 0", 1);
        value("(1 or 0) and 0", 0);
        value("not 1 or 1", 1);
        value("not (1 or 1)", 0);
        value("not 0 and 0", 0);
        String deep = "0 or 1 and 1<2+1*(".repeat(6);
        value(deep + "5-2" + ")".repeat(6), 1);
        value("1-(".repeat(8) + "1" + ")".repeat(8), 1);
        value("2*(1+".repeat(8) + "3" + ")".repeat(8), 3 * 256 + 510);
        value("1/0", error);
        value("1 or 1/0", error);
        value("0 and 1/0", error);
        value("0*(1/0)", error);
        value("not (1/0)", error);
        value("1000*1000*1000*1000", 1000000000000L);
        value("1000*1000*1000*1000+1", error);
        value("0-1000*1000*1000*1000", -1000000000000L);
        value("0-1000*1000*1000*1000-1", error);
        value("(1000*1000*1000*1000+1)*0", error);
        value("1000*1000*1000*1000*(1000*1000*1000*1000)", error);
        value("1000*1000*1000*(0-1001)", error);
        value("4096*4096*4096*(4096*4096*4096)", error);
        value("0*1000*1000*1000*1000", 0);
        value("9999*9999*9999", 999700029999L);
        value("9999*9999*9999*2", error);
    }

    private static void namesOfAShoe() {
        String land = "person a 7 33 3;shoe left 8 3 felt a;shoe right 6 4 sandal bank;law worth ";
        LeftShoes x = Due.told(land + "size*100+used*10+sort;law wear left*100+steps;");
        Due.is("left: size, used, sort", x.law(0, 0, 0), 832);
        Due.is("right: size, used, sort", x.law(0, 1, 0), 641);
        Due.is("left, steps", x.law(1, 0, 0), 133);
        Due.is("right, of the bank", x.law(1, 1, 0), 0);
        x = Due.told(land + "foot*100+day;");
        Due.is("foot", x.law(0, 0, 0), 700);
        Due.is("no foot of the bank", x.law(0, 1, 0), 0);
        x.days(5);
        Due.is("foot, day", x.law(0, 0, 0), 705);
        x.give(0, -1);
        Due.is("given to the bank", x.law(0, 0, 0), 5);
        x.give(1, 0);
        Due.is("given by the bank", x.law(0, 1, 0), 705);
    }

    private static void lawOfWhat() {
        long error = Long.MIN_VALUE;
        LeftShoes x = Due.told("person a 7 99 3;shoe left 8 49 felt a;shoe right 6 4 sandal bank;law worth 5;law wear 6;law pair 7;");
        Due.is("worth", x.law(0, 0, -9), 5);
        Due.is("wear", x.law(1, 1, 99), 6);
        Due.is("pair", x.law(2, 0, 1), 7);
        Due.is("pair turned round", x.law(2, 1, 0), error);
        Due.is("pair with none", x.law(2, 0, 2), error);
        Due.is("no such law", x.law(3, 0, 1), error);
        Due.is("no such law below 0", x.law(-1, 0, 1), error);
        Due.is("no such shoe", x.law(0, 2, 0), error);
        Due.is("no such shoe below 0", x.law(1, -1, 0), error);
        x.on(0);
        x.days(1);
        Due.is("worth in the grave", x.law(0, 0, 0), error);
        Due.is("wear in the grave", x.law(1, 0, 0), error);
        Due.is("pair in the grave", x.law(2, 0, 1), error);
        x = Due.told("shoe left 8 49 felt bank;shoe right 6 4 sandal bank;");
        for (int what = 0; what <= 2; what++) Due.is("law " + what + " that isn't told", x.law(what, 0, 1), error);
    }
}
