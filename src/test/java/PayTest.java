/** Promises 11 to 17 and 35 to 37: paying, giving, on, off, days, refused, change; undo, keep, back. */
public final class PayTest {
    private static final String LAND = "person a 8 20 3;person b 9 50 5;shoe left 7 0 boot a;shoe right 7 0 boot a;"
        + "shoe left 5 0 felt a;shoe left 2 0 boot a;shoe right 4 0 boot a;shoe right 9 0 boot b;shoe left 1 0 felt bank;";

    public static void main(String[] args) {
        change();
        pay();
        give();
        onAndOff();
        days();
        debtsOfADay();
        undo();
        images();
        fivePersons();
        Due.end();
    }

    // Worth: 14, 7, 10, 4, 4 of a; 9 of b; 2 of the bank.
    private static void change() {
        LeftShoes x = Due.told(LAND);
        Due.is("one rather than two", x.change(0, 14), 0b00001);
        Due.is("two", x.change(0, 21), 0b00011);
        Due.is("of two alike the least bits", x.change(0, 4), 0b01000);
        Due.is("both alike", x.change(0, 8), 0b11000);
        Due.is("14 and 4, or 10 and 4 and 4", x.change(0, 18), 0b01001);
        Due.is("all", x.change(0, 39), 0b11111);
        Due.is("more than all", x.change(0, 40), -2);
        Due.is("none makes it", x.change(0, 5), -2);
        Due.is("the greatest price", x.change(0, 9999), -2);
        Due.is("price 0", x.change(0, 0), -1);
        Due.is("price 10000", x.change(0, 10000), -1);
        Due.is("price below 0", x.change(0, -5), -1);
        Due.is("no such person", x.change(2, 4), -1);
        Due.is("the bank", x.change(-1, 2), -1);
        x.on(0);
        Due.is("what is worn can be paid with", x.change(0, 14), 1);
        x = Due.told("person a 1 0 0;" + "shoe left 1 0 boot a;".repeat(16) + "law worth 999;");
        Due.is("ten of 999", x.change(0, 9990), 0b1111111111);
        x = Due.told("person a 1 0 0;shoe left 1 0 boot a;shoe left 2 0 boot a;shoe left 3 0 boot a;shoe left 4 0 boot a;law worth size;");
        Due.is("1 and 4, or 2 and 3: the least bits", x.change(0, 5), 0b0110);
        x = Due.told("person a 1 0 0;shoe right 1 49 boot a;shoe left 2 0 boot a;");
        Due.is("what is worth nothing stays", x.change(0, 4), 0b10);
    }

    private static void pay() {
        LeftShoes x = Due.told(LAND);
        x.on(0);
        x.on(1);
        Due.is("pay", x.pay(0, 1, 24), 0b00101);
        Due.is("goes over", x.shoe(0, 4), 1);
        Due.is("goes over too", x.shoe(2, 4), 1);
        Due.is("taken off", x.person(0, 0), -1);
        Due.is("not worn by the other one", x.person(1, 0), -1);
        Due.is("the other foot stays", x.person(0, 1), 1);
        Due.is("no change", x.pay(0, 1, 14), -2);
        Due.is("nothing to undo of that", x.count(13), 3);
        Due.is("to oneself", x.pay(0, 0, 7), -1);
        Due.is("to the bank", x.pay(0, -1, 7), -1);
        Due.is("to none", x.pay(0, 2, 7), -1);
        Due.is("by none", x.pay(2, 0, 7), -1);
        Due.is("by the bank", x.pay(-1, 0, 2), -1);
        Due.is("price 0", x.pay(0, 1, 0), -1);
        Due.is("price 10000", x.pay(0, 1, 10000), -1);
        Due.is("back again", x.pay(1, 0, 24), 0b101);
    }

    private static void give() {
        LeftShoes x = Due.told(LAND);
        x.on(0);
        Due.is("give", x.give(0, 1), true);
        Due.is("whose", x.shoe(0, 4), 1);
        Due.is("taken off", x.person(0, 0), -1);
        Due.is("it is there", x.give(0, 1), false);
        Due.is("to the bank", x.give(0, -1), true);
        Due.is("it is at the bank", x.give(0, -1), false);
        Due.is("by the bank", x.give(6, 0), true);
        Due.is("to the grave", x.give(0, -2), false);
        Due.is("to none", x.give(0, 2), false);
        Due.is("no such shoe", x.give(7, 0), false);
        Due.is("shoe below 0", x.give(-1, 0), false);
        x = Due.told("person a 1 99 0;person b 1 0 0;shoe left 9 49 boot a;");
        x.on(0);
        x.days(1);
        Due.is("out of the grave", x.give(0, 1), false);
        Due.is("in the grave, to the grave", x.give(0, -2), false);
    }

    private static void onAndOff() {
        LeftShoes x = Due.told(LAND);
        Due.is("on", x.on(0), true);
        Due.is("worn", x.on(0), false);
        Due.is("the other foot", x.on(1), true);
        Due.is("in place of another one", x.on(2), true);
        Due.is("left", x.person(0, 0), 2);
        Due.is("right", x.person(0, 1), 1);
        Due.is("the former one is off", x.shoe(0, 6), 0);
        Due.is("of another person", x.on(5), true);
        Due.is("by another person", x.person(1, 1), 5);
        Due.is("the bank's", x.on(6), false);
        Due.is("no such one", x.on(7), false);
        Due.is("below 0", x.on(-1), false);
        Due.is("off, not worn", x.off(0), false);
        Due.is("off", x.off(2), true);
        Due.is("off again", x.off(2), false);
        Due.is("off, the bank's", x.off(6), false);
        Due.is("off, no such one", x.off(7), false);
        Due.is("off below 0", x.off(-1), false);
        x = Due.told("person a 1 99 0;shoe left 9 49 boot a;");
        x.on(0);
        x.days(1);
        Due.is("on in the grave", x.on(0), false);
        Due.is("off in the grave", x.off(0), false);
    }

    private static void days() {
        LeftShoes x = Due.told("person a 8 29 3;person b 9 9 5;shoe left 7 0 boot a;shoe right 7 46 boot a;shoe left 5 0 felt a;shoe left 5 0 felt b;");
        x.on(0);
        x.on(1);
        x.on(3);
        Due.is("none", x.days(0), 0);
        Due.is("one", x.days(1), 1);
        Due.is("steps by ten, cut", x.shoe(0, 2), 2);
        Due.is("right one too", x.shoe(1, 2), 48);
        Due.is("not worn", x.shoe(2, 2), 0);
        Due.is("few steps", x.shoe(3, 2), 0);
        Due.is("49 is not worn out", x.shoe(1, 4), 0);
        Due.is("one more", x.days(1), 2);
        Due.is("50 is worn out", x.shoe(1, 4), -2);
        Due.is("off", x.person(0, 1), -1);
        Due.is("the other one is on", x.person(0, 0), 0);
        Due.is("fifty", x.days(50), 52);
        Due.is("fifty-one", x.days(51), -1);
        Due.is("below 0", x.days(-1), -1);
        Due.is("none did", x.count(5), 52);
        for (int i = 0; i < 18; i++) x.days(50);
        Due.is("952", x.count(5), 952);
        Due.is("behind 999", x.days(48), -1);
        Due.is("still 952", x.count(5), 952);
        Due.is("999", x.days(47), 999);
        Due.is("no more", x.days(1), -1);
        Due.is("none more", x.days(0), 999);
        x = Due.told("person a 8 29 3;shoe left 7 0 boot a;law wear 51;");
        x.on(0);
        x.days(1);
        Due.is("50 at most", x.shoe(0, 2), 50);
        x = Due.told("person a 8 29 3;shoe left 7 9 boot a;law wear 0-3;");
        x.on(0);
        x.days(1);
        Due.is("0 at least", x.shoe(0, 2), 9);
        x = Due.told("person a 8 29 3;shoe left 7 9 boot a;law wear 1/(day-1);");
        x.on(0);
        x.days(1);
        Due.is("below 0, cut to 0", x.shoe(0, 2), 9);
        x.days(1);
        Due.is("with an error", x.shoe(0, 2), 11);
        x.days(1);
        Due.is("by the day", x.shoe(0, 2), 12);
    }

    private static void debtsOfADay() {
        LeftShoes x = Due.told("person a 8 50 3;person b 9 0 5;shoe left 5 4 boot a;shoe right 3 0 boot b;"
            + "debt a b 10 0;debt a b 9 0;debt b a 3 0;debt b a 9 1;debt a b 9 2;");
        Due.is("none yet", x.refused(), -1);
        x.on(0);
        x.days(1);
        Due.is("wear comes ahead of debts", x.debt(0, 4), 2);
        Due.is("then the second one", x.debt(1, 4), 1);
        Due.is("then the third one", x.debt(2, 4), 1);
        Due.is("the first that was refused", x.refused(), 0);
        Due.is("over", x.shoe(0, 4), 1);
        Due.is("off", x.person(0, 0), -1);
        x.days(1);
        Due.is("paid on its day", x.debt(3, 4), 1);
        Due.is("not on another day", x.debt(4, 4), 0);
        x.days(1);
        Due.is("paid with what came", x.debt(4, 4), 1);
        Due.is("it stays refused", x.debt(0, 4), 2);
        x = Due.told("person a 8 50 3;person b 9 0 5;shoe left 9 0 boot a;law worth size+day;debt a b 11 2;");
        x.days(3);
        Due.is("worth by this day, not the next one", x.debt(0, 4), 1);
    }

    private static void undo() {
        LeftShoes x = Due.told(LAND);
        Due.is("nothing", x.undo(), -1);
        x.on(0);
        x.on(2);
        x.pay(0, 1, 24);
        x.give(1, -1);
        x.on(3);
        x.off(3);
        Due.is("what can be undone", x.count(13), 6);
        Due.is("off undone", x.undo(), 5);
        Due.is("worn again", x.person(0, 0), 3);
        Due.is("on undone", x.undo(), 4);
        Due.is("barefoot again", x.person(0, 0), -1);
        Due.is("give undone", x.undo(), 3);
        Due.is("whose again", x.shoe(1, 4), 0);
        Due.is("pay undone", x.undo(), 2);
        Due.is("all again", x.person(0, 4), 0b11111);
        Due.is("worn again", x.person(0, 0), 2);
        Due.is("in place undone", x.undo(), 1);
        Due.is("the former one", x.person(0, 0), 0);
        Due.is("the first one", x.undo(), 0);
        Due.is("none left", x.undo(), -1);
        x.on(0);
        x.give(9, 0);
        x.give(6, -1);
        x.on(6);
        x.off(4);
        Due.is("what did nothing isn't undone", x.count(13), 1);
        Due.is("no day", x.days(0), 0);
        Due.is("still there", x.count(13), 1);
        Due.is("wrong days", x.days(51), -1);
        Due.is("still there then", x.count(13), 1);
        x.days(1);
        Due.is("a day went by", x.undo(), -1);
        for (int i = 0; i < 25; i++) {
            if (i % 2 == 0) x.off(0); else x.on(0);
        }
        Due.is("twenty at most", x.count(13), 20);
        for (int i = 19; i >= 0; i--) Due.is("undo " + i, x.undo(), i);
        Due.is("no more than these", x.undo(), -1);
        // 25 were done, the first one took it off; the five that are forgotten left it off.
        Due.is("as it was ahead of the twenty", x.person(0, 0), -1);
    }

    // Of each person i a left shoe i and a right shoe i + 5, with steps that wear i + 1 a day.
    private static void fivePersons() {
        String land = "";
        for (int i = 0; i < 5; i++) land += "person " + "abcde".charAt(i) + " " + (i + 1) + " " + 10 * (i + 1) + " " + i + ";";
        for (int i = 0; i < 10; i++) land += "shoe " + (i < 5 ? "left" : "right") + " " + (i + 1) + " 0 boot " + "abcde".charAt(i % 5) + ";";
        LeftShoes x = Due.told(land + "debt e d 20 1;debt d e 9 1;");
        for (int i = 0; i < 10; i++) Due.is("on " + i, x.on(i), true);
        for (int i = 0; i < 5; i++) {
            Due.is("left of " + i, x.person(i, 0), i);
            Due.is("right of " + i, x.person(i, 1), i + 5);
        }
        Due.is("off", x.off(9), true);
        Due.is("off is off", x.person(4, 1), -1);
        Due.is("undone", x.undo(), 10);
        Due.is("on again", x.person(4, 1), 9);
        x.keep();
        Due.is("two days", x.days(2), 2);
        for (int i = 0; i < 10; i++) Due.is("used of " + i, x.shoe(i, 2), 2 * (i % 5 + 1));
        Due.is("refused", x.refused(), 0);
        Due.is("7 and 8 make no 9", x.debt(1, 4), 2);
        for (int i = 0; i < 5; i++) Due.is("walk of " + i + " by steps and fare", x.walk(i, 3, 1), plainWalk(i));
        x.back();
        for (int i = 0; i < 10; i++) Due.is("worn as in the image: " + i, x.shoe(i, 6), 1);
        for (int i = 4; i >= 0; i--) Due.is("give away", x.give(i, (i + 1) % 5), true);
        for (int i = 0; i < 5; i++) Due.is("bare left foot of " + i, x.person(i, 0), -1);
        for (int i = 0; i < 5; i++) Due.is("undone", x.undo(), 4 - i);
        for (int i = 0; i < 5; i++) Due.is("left again of " + i, x.person(i, 0), i);
    }

    // By trying all, those that walk earlier first: worth is the size (twice for left) less used by 5.
    private static int plainWalk(int person) {
        int best = 0;
        int bestBits = -1;
        for (int bits : new int[] {7, 3, 5, 1, 6, 2, 4, 0}) {
            int used = 2 * (person + 1) + (person + 1) * Integer.bitCount(bits);
            int less = Math.max(0, 2 * (person + 1) - 2 * (person + 1) / 5) - Math.max(0, 2 * (person + 1) - used / 5)
                + Math.max(0, person + 6 - 2 * (person + 1) / 5) - Math.max(0, person + 6 - used / 5);
            int sum = less + person * (3 - Integer.bitCount(bits));
            if (bestBits < 0 || sum < best) {
                best = sum;
                bestBits = bits;
            }
        }
        return bestBits;
    }

    private static void images() {
        LeftShoes x = Due.told("person a 8 50 3;person b 9 0 5;shoe left 5 4 boot a;shoe right 3 0 boot b;debt a b 9 1;debt a b 8 3;");
        Due.is("none", x.back(), -1);
        x.days(1);
        x.on(0);
        Due.is("keep", x.keep(), 1);
        Due.is("what can be undone stays", x.count(13), 1);
        x.track(0, 5);
        x.known(0);
        x.days(3);
        Due.is("paid", x.debt(0, 4), 1);
        Due.is("refused", x.refused(), 1);
        Due.is("back", x.back(), 1);
        Due.is("day", x.count(5), 1);
        Due.is("to come", x.debt(0, 4), 0);
        Due.is("not refused", x.refused(), -1);
        Due.is("whose", x.shoe(0, 4), 0);
        Due.is("worn", x.person(0, 0), 0);
        Due.is("used", x.shoe(0, 2), 4);
        Due.is("tracks stay", x.count(11), 1);
        Due.is("and by how many it is known", x.count(12), 0);
        Due.is("nothing to undo", x.undo(), -1);
        x.off(0);
        Due.is("off", x.count(13), 1);
        Due.is("back once more", x.back(), 1);
        Due.is("worn once more", x.person(0, 0), 0);
        Due.is("nothing to undo once more", x.count(13), 0);
        x.days(2);
        Due.is("in place of one ahead", x.keep(), 3);
        x.days(4);
        Due.is("back there", x.back(), 3);
        Due.is("paid there", x.debt(0, 4), 1);
        x = Due.told("person a 1 0 0;person b 1 0 0;shoe left 5 0 boot a;" + "debt a b 99 2;".repeat(7) + "debt a b 10 1;");
        x.keep();
        x.days(2);
        Due.is("the eighth debt is paid", x.debt(7, 4), 1);
        x.back();
        Due.is("the eighth debt is to come", x.debt(7, 4), 0);
        x.days(2);
        x.keep();
        x.days(2);
        x.back();
        Due.is("the eighth debt is paid in the image", x.debt(7, 4), 1);
        Due.is("the others are to come in it", x.debt(6, 4), 0);
        Due.tell(x, "person a 1 0 0;person b 1 0 0;" + "debt a b 99 2;".repeat(8));
        for (int i = 0; i < 8; i++) Due.is("to come by a new text: " + i, x.debt(i, 4), 0);
        Due.is("to come there", x.debt(1, 4), 0);
    }
}
