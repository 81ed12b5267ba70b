/** Promises 31 to 34 and 38: rings, chance, what is tried, counts. */
public final class YearsTest {
    public static void main(String[] args) {
        rings();
        chance();
        luckByHand();
        tried();
        counts();
        Due.end();
    }

    private static void goods(LeftShoes x, int... due) {
        Due.is("how many", x.ring(), due.length == 0 ? -2 : due.length);
        for (int k = 0; k < due.length; k++) Due.is("good(" + k + ")", x.good(k), due[k]);
        Due.is("no so many", x.good(due.length), -2);
        Due.is("far more", x.good(Integer.MAX_VALUE), -2);
        Due.is("k below 0", x.good(-1), -1);
    }

    private static void rings() {
        goods(new LeftShoes());
        goods(Due.told("swap boot left 2 boot right 3;"));
        goods(Due.told("swap boot left 2 boot right 3;swap boot right 3 boot left 2;"));
        goods(Due.told("swap boot left 2 boot right 3;swap boot right 1 boot left 1;"), 0, 1);
        goods(Due.told("swap boot left 3 boot right 2;swap boot right 1 boot left 1;"));
        goods(Due.told("swap felt right 99 sandal left 98;swap sandal left 98 felt left 99;swap felt left 1 felt right 2;"), 2, 4, 5);
        // Two of the same length: the first by goods, from the least of it on.
        goods(Due.told("swap felt left 1 felt right 2;swap felt right 1 felt left 1;swap sandal right 1 sandal left 2;swap sandal left 1 sandal right 1;"), 2, 3);
        // A short one among late goods goes ahead of a long one among early goods.
        goods(Due.told("swap boot left 1 boot right 2;swap boot right 1 sandal left 1;swap sandal left 1 boot left 1;"
            + "swap felt left 1 felt right 2;swap felt right 1 felt left 1;"), 4, 5);
        goods(Due.told("swap boot left 1 sandal left 9;swap sandal left 1 boot right 9;swap boot right 1 boot left 9;"
            + "swap boot left 1 boot right 5;swap boot right 1 sandal left 5;swap sandal left 1 boot left 5;"), 0, 1);
        goods(Due.told("swap boot left 1 sandal left 9;swap sandal left 1 boot right 9;swap boot right 99 boot left 9;"
            + "swap boot left 99 boot right 5;swap boot right 99 sandal left 5;swap sandal left 99 boot left 5;"), 0, 2, 1);
        goods(Due.told("swap boot left 99 boot right 99;swap boot right 99 sandal left 99;swap sandal left 99 sandal right 99;"
            + "swap sandal right 99 felt left 99;swap felt left 99 felt right 99;swap felt right 98 boot left 99;"), 0, 1, 2, 3, 4, 5);
        goods(Due.told("swap boot left 99 boot right 99;swap boot right 99 sandal left 99;swap sandal left 99 sandal right 99;"
            + "swap sandal right 99 felt left 99;swap felt left 99 felt right 99;swap felt right 99 boot left 99;"));
    }

    private static void chance() {
        LeftShoes x = Due.told("person a 8 20 3;person b 1 1 1;shoe left 8 10 boot a;");
        Due.is("of 0 at least", x.chance(0, 30, 1, 0), 10);
        Due.is("of 1 at least", x.chance(0, 30, 1, 1), 0);
        Due.is("seed below 0", x.chance(-1, 1, 0, 0), -1);
        Due.is("the greatest seed", x.chance(2147483647, 1, 0, 0), 10);
        Due.is("n 0", x.chance(0, 0, 0, 0), -1);
        Due.is("n 31", x.chance(0, 31, 0, 0), -1);
        Due.is("no such person", x.chance(0, 1, 2, 0), -1);
        Due.is("person below 0", x.chance(0, 1, -1, 0), -1);
        Due.is("bound below 0", x.chance(0, 1, 0, -1), -1);
        Due.is("bound 9999", x.chance(0, 1, 0, 9999), 0);
        Due.is("bound 10000", x.chance(0, 1, 0, 10000), -1);
        for (int i = 0; i < 19; i++) x.days(50);
        x.days(29);
        Due.is("day 979", x.count(5), 979);
        Due.is("up to 999", x.chance(0, 20, 0, 0), 10);
        Due.is("behind 999", x.chance(0, 21, 0, 0), -1);
        x = Due.told("person a 8 20 3;");
        Due.is("without shoes", x.chance(9, 30, 0, 0), 10);
        Due.is("without shoes, of 1", x.chance(9, 30, 0, 1), 0);
    }

    // The numbers of a seed, worked out here once more: 0 mud, 1 and which shoe is lost, 2 nothing.
    private static void luckByHand() {
        for (int seed = 0; seed < 40; seed++) {
            // Eleven shoes of 10 each, one of them worn: mud alone takes 1 of it, what is lost takes all of one.
            LeftShoes x = Due.told("person a 8 0 3;" + "shoe left 5 0 boot a;".repeat(11));
            x.on(0);
            long state = seed;
            int least = 99;
            int kept = 0;
            for (int year = 0; year < 10; year++) {
                int used = 0;
                int lost = 0;
                for (int day = 0; day < 2; day++) {
                    state = (state * 1103515245L + 12345L) % (1L << 31);
                    int luck = (int) (state / 65536 % 3);
                    if (luck == 0) used += 5;
                    if (luck == 1) {
                        state = (state * 1103515245L + 12345L) % (1L << 31);
                        lost |= 1 << (int) (state / 65536 % 11);
                    }
                }
                int worth = 110 - 10 * Integer.bitCount(lost) - ((lost & 1) == 0 ? used / 5 : 0);
                if (worth >= 100) kept++;
                least = Math.min(least, worth);
            }
            Due.is("seed " + seed, x.chance(seed, 2, 0, 100), kept);
            Due.is("seed " + seed + " at least", x.chance(seed, 2, 0, least), 10);
            Due.is("nothing is lost by asking", x.person(0, 2), 110);
        }
        // Mud wears out as wear does, and debts are paid within a year.
        LeftShoes x = Due.told("person a 8 0 3;person b 1 0 0;shoe left 5 0 boot a;debt a b 10 0;");
        int none = 0;
        long state = 3;
        for (int year = 0; year < 10; year++) {
            state = (state * 1103515245L + 12345L) % (1L << 31);
            if (state / 65536 % 3 == 1) state = (state * 1103515245L + 12345L) % (1L << 31);
            else none++;
        }
        Due.is("b has it then, if it isn't lost", x.chance(3, 1, 1, 10), none);
    }

    private static void tried() {
        String land = "person a 8 50 3;person b 9 50 0;shoe left 9 0 boot a;shoe right 9 0 boot a;shoe right 4 0 felt b;shoe left 3 0 boot bank;debt a b 17 0;";
        LeftShoes x = Due.told(land);
        x.on(0);
        x.on(1);
        x.on(2);
        Due.is("now", x.count(8), 18 + 9 + 4 + 6);
        Due.is("n 0", x.tried(0, 0, 0), 37);
        Due.is("nobody walks", x.tried(0, 0, 4), 37);
        // Day by day: 5 more used of each worn; the debt of 17 on day 0 takes the left one of a off.
        Due.is("no debts", x.tried(1, 0, 4), 14 + 5 + 0 + 6);
        Due.is("a is barefoot: 17 can't be paid", x.tried(2, 0, 4), 18 + 9 + 0 + 6);
        Due.is("b is barefoot", x.tried(2, 1, 4), 17 + 5 + 4 + 6);
        Due.is("the right one of a is in the grave", x.tried(3, 1, 4), 17 + 0 + 0 + 6);
        Due.is("the left one of a is in the grave", x.tried(3, 0, 4), 0 + 5 + 0 + 6);
        Due.is("all are left", x.tried(4, 0, 0), 18 + 18 + 8 + 6);
        // The right one is worn on, and worth 17 it pays; no: of both the least bits, the first one.
        Due.is("all are left, four days", x.tried(4, 0, 4), 17 + 14 + 4 + 6);
        Due.is("nothing went by", x.count(5), 0);
        Due.is("nothing was paid", x.debt(0, 4), 0);
        Due.is("all is on", x.person(0, 0) + 10 * x.person(0, 1) + 100 * x.person(1, 1), 210);
        Due.is("sides are as they were", x.shoe(1, 0), 1);
        Due.is("what 5", x.tried(5, 0, 0), -1);
        Due.is("what -1", x.tried(-1, 0, 0), -1);
        Due.is("i 1 of 0", x.tried(0, 1, 0), -1);
        Due.is("i 1 of 1", x.tried(1, 1, 0), -1);
        Due.is("i 1 of 4", x.tried(4, 1, 0), -1);
        Due.is("no such person", x.tried(2, 2, 0), -1);
        Due.is("person below 0", x.tried(2, -1, 0), -1);
        Due.is("no such shoe", x.tried(3, 4, 0), -1);
        Due.is("shoe below 0", x.tried(3, -1, 0), -1);
        Due.is("n 50", x.tried(0, 0, 50), 37);
        Due.is("n 51", x.tried(0, 0, 51), -1);
        Due.is("n below 0", x.tried(0, 0, -1), -1);
        for (int i = 0; i < 19; i++) x.days(50);
        Due.is("day 999", x.tried(0, 0, 49) >= 0, true);
        Due.is("behind 999", x.tried(0, 0, 50), -1);
        x = Due.told("person a 8 99 3;shoe left 9 49 boot a;shoe left 9 0 boot a;");
        x.on(0);
        x.days(1);
        Due.is("in the grave already", x.tried(3, 0, 1), 18);
        x = Due.told("shoe left 9 0 boot bank;law worth size+day;");
        Due.is("worth then", x.tried(0, 0, 7), 16);
    }

    private static void counts() {
        LeftShoes x = Due.told("person a 8 50 3;person b 9 50 0;shoe left 9 0 boot a;shoe right 9 45 boot a;shoe left 4 0 felt bank;"
            + "debt a b 17 0;debt a b 7 0;debt b a 16 9;swap boot left 1 felt left 2;law wear steps/10;law worth 2*size-used/5-(1-left)*size;");
        x.on(0);
        x.on(1);
        int[] ahead = {2, 3, 3, 1, 16, 0, 0, 1, 26, 0, 0, 0, 0, 2};
        for (int what = 0; what < 14; what++) Due.is("count(" + what + ")", x.count(what), ahead[what]);
        x.days(1);
        x.track(0, 4);
        x.strike(0);
        x.known(1);
        x.give(2, 0);
        int[] then = {2, 3, 3, 1, 16, 1, 1, 0, 25, 1, 1, 2, 1, 1};
        for (int what = 0; what < 14; what++) Due.is("then count(" + what + ")", x.count(what), then[what]);
        Due.is("count(14)", x.count(14), -1);
        Due.is("count(-1)", x.count(-1), -1);
    }
}
