/** Promises 18 to 25: mint, pairs, partner, walk, rests, rest, run, save. */
public final class MarketTest {
    public static void main(String[] args) {
        mint();
        pairs();
        manyPairs();
        walk();
        rests();
        run();
        Due.end();
    }

    private static void mint() {
        LeftShoes x = Due.told("law worth size;");
        Due.is("1 by 1", x.mint(1, 1), 1);
        Due.is("3 by 1", x.mint(3, 1), 0b111);
        Due.is("3 by 2: 1 and 2", x.mint(3, 2), 0b11);
        Due.is("3 by 3: 1", x.mint(3, 3), 1);
        Due.is("5 by 5: 1", x.mint(5, 5), 1);
        Due.is("6 by 5: 1 and 2", x.mint(6, 5), 0b11);
        Due.is("10 by 1: all", x.mint(10, 1), 0b1111111111);
        Due.is("11 by 1", x.mint(11, 1), -2);
        Due.is("8 by 2: 1, 3, 4", x.mint(8, 2), 0b1101);
        Due.is("40 by 5: 1, 2, 9, of several the least bits", x.mint(40, 5), plainMint(40, 5));
        Due.is("40 by 4", x.mint(40, 4), plainMint(40, 4));
        Due.is("40 by 3", x.mint(40, 3), -2);
        Due.is("30 by 3", x.mint(30, 3), plainMint(30, 3));
        Due.is("n 0", x.mint(0, 1), -1);
        Due.is("n 41", x.mint(41, 1), -1);
        Due.is("k 0", x.mint(1, 0), -1);
        Due.is("k 6", x.mint(1, 6), -1);
        Due.is("both below 0", x.mint(-1, -1), -1);
        x = new LeftShoes();
        Due.is("even worths make no odd price", x.mint(1, 1), -2);
        x = Due.told("law worth left*(used=0)*(sort=0)*(steps=0)*(foot=0)*(size+day);");
        Due.is("fresh left boots of the bank", x.mint(3, 3), 1);
        x.days(1);
        Due.is("by the day", x.mint(3, 3), -2);
        x = Due.told("law worth 11-size;");
        Due.is("the highest size is worth 1", x.mint(3, 3), 0b1000000000);
        x = Due.told("law worth (size>8)*1;");
        Due.is("two are alike: the least bits", x.mint(2, 2), 0b100000000);
        x = Due.told("law worth (size=2)/(size-1);");
        Due.is("size 2 is worth 1", x.mint(2, 2), 0b10);
        Due.is("size 1, an error, is worth 2 as without a law", x.mint(2, 1), 0b11);
        Due.is("and not 3", x.mint(3, 1), -2);
        x = Due.told("law worth 64+size;");
        Due.is("worth more than every price", x.mint(1, 1), -2);
        x = Due.told("law worth 0;");
        Due.is("worth nothing", x.mint(1, 5), -2);
    }

    private static int plainMint(int n, int k) {
        PlainLand y = new PlainLand();
        for (String four : "law |wort|h si|ze; |    ".split("\\|")) {
            int v = 0;
            for (int i = 0; i < 4; i++) v = v << 8 | four.charAt(i);
            for (int i = 3; i >= 0; i--) y.tape.add(v >>> 8 * i & 255);
        }
        y.text(15);
        return y.mint(n, k);
    }

    private static void partners(LeftShoes x, int... due) {
        for (int i = 0; i < due.length; i++) Due.is("partner(" + i + ")", x.partner(i), due[i]);
    }

    private static void pairs() {
        LeftShoes x = new LeftShoes();
        Due.is("of none", x.pairs(), 0);
        Due.is("no such one", x.partner(0), -1);
        x = Due.told("shoe left 3 0 boot bank;shoe left 4 0 boot bank;");
        Due.is("left ones alone", x.pairs(), 0);
        partners(x, -2, -2, -1);
        x = Due.told("shoe right 3 0 boot bank;");
        Due.is("a right one alone", x.pairs(), 0);
        partners(x, -2);
        // The first left one waits for its own size, though another one comes earlier.
        x = Due.told("shoe left 3 0 boot bank;shoe right 4 0 boot bank;shoe right 3 0 boot bank;shoe left 4 0 boot bank;");
        Due.is("two pairs", x.pairs(), 20);
        partners(x, 2, 3, 0, 1);
        x = Due.told("shoe left 3 0 boot bank;shoe left 3 0 boot bank;shoe right 3 0 boot bank;");
        Due.is("two for one", x.pairs(), 10);
        partners(x, 2, -2, 0);
        x = Due.told("shoe left 5 0 boot bank;shoe left 3 0 boot bank;shoe right 3 0 boot bank;");
        partners(x, -2, 2, 1);
        x = Due.told("shoe left 5 0 boot bank;shoe left 3 0 boot bank;shoe right 4 0 boot bank;shoe right 4 0 boot bank;");
        Due.is("worth nothing together, and still partners", x.pairs(), 0);
        partners(x, 2, 3, 0, 1);
        // 0 with 2 makes 5, 1 with 2 makes 6, 1 with 3 makes 2, 0 with 3 makes 0: 5 and 2.
        x = Due.told("shoe left 5 0 boot bank;shoe left 6 0 boot bank;shoe right 5 0 boot bank;shoe right 10 4 boot bank;"
            + "law pair (used=0)*size+(used>0)*(size>5)*2;");
        Due.is("the greatest sum, not the greatest pair", x.pairs(), 7);
        partners(x, 2, 3, 0, 1);
        x = Due.told("person a 1 99 0;shoe left 3 0 boot a;shoe right 3 49 boot a;shoe right 4 0 boot a;");
        x.on(1);
        Due.is("ahead of the grave", x.pairs(), 10);
        x.days(1);
        Due.is("without the grave", x.pairs(), 0);
        partners(x, 2, -1, 0);
        Due.is("below 0", x.partner(-1), -1);
    }

    private static void manyPairs() {
        LeftShoes x = Due.told("shoe left 1 0 boot bank;".repeat(8) + "shoe right 1 0 boot bank;".repeat(8) + "law pair 999;");
        Due.is("eight and eight", x.pairs(), 8 * 999);
        for (int i = 0; i < 8; i++) Due.is("partner(" + i + ")", x.partner(i), i + 8);
        x = Due.told("shoe right 1 0 boot bank;" + "shoe left 1 0 boot bank;".repeat(15));
        Due.is("fifteen and one", x.pairs(), 10);
        partners(x, 1, 0, -2, -2);
        x = Due.told("shoe left 1 0 boot bank;" + "shoe right 2 0 boot bank;".repeat(14) + "shoe right 1 0 boot bank;");
        Due.is("one and fifteen", x.pairs(), 10);
        Due.is("the last one", x.partner(0), 15);
        Due.is("and back", x.partner(15), 0);
        x = Due.told("shoe left 1 0 boot bank;" + "shoe right 2 0 boot bank;".repeat(15));
        Due.is("the first one", x.partner(0), 1);
        x = Due.told("shoe right 7 0 boot bank;".repeat(4) + "shoe left 7 0 boot bank;".repeat(12) + "law pair size;");
        Due.is("twelve and four", x.pairs(), 28);
        partners(x, 4, 5, 6, 7, 0, 1, 2, 3, -2);
        x = Due.told("shoe right 7 0 boot bank;".repeat(12) + "shoe left 7 0 boot bank;".repeat(4) + "law pair size;");
        Due.is("four and twelve", x.pairs(), 28);
        partners(x, 12, 13, 14, 15, -2);
        // Each left one makes its size times the right one's use: the greatest with the greatest.
        String s = "";
        for (int i = 1; i <= 8; i++) s += "shoe left " + i + " 0 boot bank;";
        for (int i = 1; i <= 8; i++) s += "shoe right 1 " + i + " boot bank;";
        x = Due.told(s + "law pair size*used;");
        Due.is("sum of squares", x.pairs(), 204);
        for (int i = 0; i < 8; i++) Due.is("partner(" + i + ")", x.partner(i), i + 8);
    }

    private static void walk() {
        LeftShoes x = Due.told("person a 8 20 3;person b 9 50 0;shoe left 8 10 boot a;shoe right 8 10 boot a;shoe left 9 0 boot b;");
        Due.is("barefoot", x.walk(0, 4, 0), 0);
        Due.is("all days", x.walk(0, 4, 1), 15);
        x.on(0);
        Due.is("used 16 of 10 after three days", x.walk(0, 3, 0), 1);
        Due.is("all three", x.walk(0, 3, 1), 7);
        x.on(1);
        Due.is("two shoes", x.walk(0, 3, 0), 2);
        Due.is("all three then", x.walk(0, 3, 1), 7);
        Due.is("eight days", x.walk(0, 8, 0), 6);
        x.on(2);
        Due.is("a fare of 0: not a day that costs", x.walk(1, 3, 0), 0);
        Due.is("none of them", x.walk(1, 3, 1), 0);
        Due.is("n 0", x.walk(0, 0, 0), -1);
        Due.is("n 9", x.walk(0, 9, 0), -1);
        Due.is("what 2", x.walk(0, 1, 2), -1);
        Due.is("what -1", x.walk(0, 1, -1), -1);
        Due.is("no such person", x.walk(2, 1, 0), -1);
        Due.is("below 0", x.walk(-1, 1, 0), -1);
        Due.is("nothing is walked by asking", x.shoe(0, 2), 10);
        x = Due.told("person a 8 20 0;shoe left 8 0 boot a;");
        x.on(0);
        Due.is("of several the earliest days", x.walk(0, 5, 1), 0b00011);
        Due.is("for nothing", x.walk(0, 5, 0), 0);
        x = Due.told("person a 8 20 5;shoe left 8 40 boot a;law worth size*9-used;law wear 1+(day=1)*8;");
        x.on(0);
        Due.is("the dear day by fare", x.walk(0, 3, 0), 7);
        Due.is("not the second day", x.walk(0, 3, 1), 0b101);
        x.days(1);
        Due.is("the first day then is the dear one", x.walk(0, 2, 1), 0b10);
        x = Due.told("person a 8 20 9;shoe left 5 45 boot a;law worth 12;law wear 5;");
        x.on(0);
        Due.is("worn out, all is lost, and no fare", x.walk(0, 3, 0), 12);
        Due.is("walking on with nothing", x.walk(0, 3, 1), 7);
        Due.is("one fare is less", x.walk(0, 1, 0), 9);
        Due.is("by fare", x.walk(0, 1, 1), 0);
        x = Due.told("person a 8 20 9;shoe left 5 0 boot a;law worth used+day;law wear 5;");
        x.on(0);
        Due.is("worth more by wear is less than nothing", x.walk(0, 2, 0), -10);
        x = Due.told("person a 8 20 1;person b 1 1 1;shoe left 8 10 boot a;debt a b 14 0;");
        x.on(0);
        Due.is("without debts", x.walk(0, 3, 0), 1);
        x = Due.told("person a 8 20 9;shoe left 5 0 boot a;law worth 900-day*used;law wear 1;");
        x.on(0);
        Due.is("the day behind the last one", x.walk(0, 2, 0), 4);
    }

    private static void rests() {
        String land = "person a 8 20 3;person b 9 50 5;shoe left 8 0 boot a;shoe right 8 0 boot b;shoe right 8 0 boot a;shoe right 8 0 boot bank;shoe left 8 0 boot bank;";
        LeftShoes x = Due.told(land);
        Due.is("of 10", x.rests(0, 1), 9);
        for (int k = 0; k < 9; k++) Due.is("rest " + k, x.rest(0, 1, k), 10 * (k + 1) + 9 - k);
        Due.is("no so many", x.rest(0, 1, 9), -2);
        Due.is("k below 0", x.rest(0, 1, -1), -1);
        Due.is("of one person", x.rests(0, 2), -1);
        Due.is("the bank's right one", x.rests(0, 3), -1);
        Due.is("the bank's left one", x.rests(4, 1), -1);
        Due.is("the bank's both", x.rests(4, 3), -1);
        Due.is("turned round", x.rests(1, 0), -1);
        Due.is("no such ones", x.rests(0, 9), -1);
        Due.is("rest of one person", x.rest(0, 2, 0), -1);
        Due.is("rest of no such ones", x.rest(-1, 1, 0), -1);
        x = Due.told(land + "law pair 18;");
        Due.is("of 18", x.rests(0, 1), 1);
        Due.is("nine each", x.rest(0, 1, 0), 99);
        x = Due.told(land + "law pair 17;");
        Due.is("of 17", x.rests(0, 1), 2);
        Due.is("8 and 9", x.rest(0, 1, 0), 89);
        x = Due.told(land + "law pair 999;");
        Due.is("of 999", x.rests(0, 1), 1);
        x = Due.told(land + "law pair 0;");
        Due.is("of 0 each is one", x.rests(0, 1), 100);
        Due.is("the first one", x.rest(0, 1, 0), 0);
        Due.is("the last one", x.rest(0, 1, 99), 99);
        Due.is("no more", x.rest(0, 1, 100), -2);
        // Of 4: those that make 4, and those where each asks 4 or more (sum above it): 5, and 36.
        x = Due.told(land + "law pair 4;");
        Due.is("of 4", x.rests(0, 1), 41);
        Due.is("0 and 4", x.rest(0, 1, 0), 4);
        Due.is("4 and 0", x.rest(0, 1, 4), 40);
        Due.is("4 and 4", x.rest(0, 1, 5), 44);
    }

    private static void run() {
        String land = "person a 8 20 3;person b 9 50 5;person c 1 1 1;person d 1 1 1;claim a 4;claim b 2;claim c 1;" + "shoe left 1 0 boot bank;".repeat(8);
        LeftShoes x = Due.told(land);
        Due.is("half is not more than half", x.run(0), 0);
        Due.is("nobody, nothing to save", x.save(0), 0);
        Due.is("c runs: 7 are left, a runs, too: 3 are left, b runs, too", x.run(0b100), 0b111);
        Due.is("b runs: 6 are left, a runs: 2 are left, c stays at half", x.run(0b010), 0b011);
        Due.is("a runs: 4 are left", x.run(0b001), 0b001);
        Due.is("save, if c runs", x.save(0b100), 1);
        Due.is("save, if b runs", x.save(0b010), 2);
        Due.is("save, if a runs", x.save(0b001), 0);
        Due.is("save, if a and b run", x.save(0b011), 0);
        Due.is("save, if all run", x.save(0b111), 0);
        Due.is("all run", x.run(0b111), 0b111);
        Due.is("without a claim", x.run(0b1000), -1);
        Due.is("no person", x.run(0b10000), -1);
        Due.is("below 0", x.run(-1), -1);
        Due.is("the least", x.run(Integer.MIN_VALUE), -1);
        Due.is("save without a claim", x.save(0b1001), -1);
        Due.is("save no person", x.save(1 << 30), -1);
        Due.is("save below 0", x.save(-8), -1);
        x.give(0, 3);
        Due.is("of seven 4 are more than half: 3 are left, then 1", x.run(0), 0b111);
        Due.is("save", x.save(0), 1);
        x = Due.told("person a 1 1 1;person b 1 1 1;claim a 2;claim b 1;" + "shoe left 1 0 boot bank;".repeat(2));
        Due.is("a runs, 0 are left, b runs", x.run(0), 0b11);
        x = Due.told("person a 1 1 1;person b 1 1 1;claim a 9;claim b 9;");
        Due.is("an empty bank", x.run(0), 0b11);
        Due.is("0 at least is left", x.run(1), 0b11);
        Due.is("save all", x.save(0), 18);
        Due.is("save one", x.save(1), 27);
        x = Due.told("person a 1 1 1;");
        Due.is("nobody has a claim", x.run(0), 0);
        Due.is("nobody has a claim to save", x.save(0), 0);
    }
}
