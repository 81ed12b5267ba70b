/** Promises 1 to 5: a new object, the tape, texts and their faults, names. */
public final class TextTest {
    private static final String A = "person a 1 1 1;";

    public static void main(String[] args) {
        newObject();
        tape();
        soundTexts();
        tokens();
        tooMuch();
        toldAlready();
        notTold();
        toItself();
        expressions();
        firstFault();
        whatATextResets();
        named();
        Due.end();
    }

    private static void newObject() {
        LeftShoes x = new LeftShoes();
        for (int what = 0; what <= 13; what++) Due.is("new count(" + what + ")", x.count(what), 0);
        Due.is("new fault(0)", x.fault(0), 0);
        Due.is("new fault(1)", x.fault(1), -1);
        Due.is("new text(1)", x.text(1), -2);
        Due.is("new text(0)", x.text(0), 0);
        Due.is("new feed", x.feed(0, 0, 0, 0, 0), 20);
        Due.is("new back", new LeftShoes().back(), -1);
        Due.is("new undo", new LeftShoes().undo(), -1);
    }

    private static void tape() {
        LeftShoes x = new LeftShoes();
        for (int i = 1; i <= 35; i++) Due.is("feed " + i, x.feed(0x20202020, 0x20202020, 0x20202020, 0x20202020, 0x20202020), 20 * i);
        Due.is("feed beyond 700", x.feed(0x20202020, 0, 0, 0, 0), -1);
        Due.is("text beyond", x.text(701), -2);
        Due.is("text below 0", x.text(-1), -2);
        Due.is("text least", x.text(Integer.MIN_VALUE), -2);
        Due.is("fault of none", x.fault(0), 0);
        Due.is("still full", x.feed(0, 0, 0, 0, 0), -1);
        Due.is("all of it", x.text(700), 0);
        Due.is("empty then", x.feed(0x80818283, 0, 0, 0, 0), 20);
        Due.is("the highest byte first, above 127", x.text(1), -1);
        Due.is("fault of it", x.fault(0), 1);
        Due.is("empty with a fault too", x.feed(0x73656564, 0x20313b7a, 0, 0, 0), 20);
        Due.is("the first n alone: seed 1;", x.text(7), 1);
        Due.is("empty behind the first n", x.text(1), -2);
        Due.is("fault(2)", x.fault(2), -1);
        Due.is("fault(-1)", x.fault(-1), -1);
    }

    private static void soundTexts() {
        Due.sound("", 0);
        Due.sound(" \n ", 0);
        Due.sound(A, 1);
        Due.sound("person a1 1 1;", 1);
        Due.sound("\nperson\na\n20 99 99\n;\n", 1);
        Due.sound("person abcdef 0000000000000000000020 0 0;", 1);
        Due.sound("shoe left 1 0 boot bank;shoe right 20 49 sandal bank;shoe left 1 1 felt bank;", 3);
        Due.sound(A + "person b 1 1 1;debt a b 1 0;debt a b 999 99;debt b a 1 1;claim b 9;claim a 1;", 7);
        Due.sound("swap boot left 1 boot right 99;swap boot right 99 boot left 1;", 2);
        Due.sound("seed 0;", 1);
        Due.sound("seed 99999;", 1);
        Due.sound("law worth 9999;law pair 0;law wear 1;", 3);
        Due.sound("law worth not not size<=used and left<>sort or steps>=day+foot*2/(1-1);", 1);
        Due.sound("law worth ((((((((1))))))))+((((((((2))))))));", 1);
        Due.sound("law worth 1 < 2;law pair (1<2)<3;law wear 1<(2<3);", 3);
    }

    private static void tokens() {
        Due.fault("persona a 1 1 1;", 1, 0);
        Due.fault("Person a 1 1 1;", 1, 0);
        Due.fault("person a 1 1 1", 1, 14);
        Due.fault("person a 1 1 1  \n", 1, 17);
        Due.fault("person a 1 1;", 1, 12);
        Due.fault("person a 1 1 1 1;", 1, 15);
        Due.fault("person abcdefg 1 1 1;", 1, 7);
        Due.fault("person left 1 1 1;", 1, 7);
        Due.fault("person bank 1 1 1;", 1, 7);
        Due.fault("person foot 1 1 1;", 1, 7);
        Due.fault("person 7 1 1 1;", 1, 7);
        Due.fault("person a -1 1 1;", 1, 9);
        Due.fault("person a 1\t1 1;", 1, 10);
        Due.fault(";", 1, 0);
        Due.fault(A + ";", 1, 15);
        Due.fault(A + "x", 1, 15);
        Due.fault("left 1;", 1, 0);
        Due.fault("1;", 1, 0);
        Due.fault("\u0000", 1, 0);
        Due.fault("\u00ff", 1, 0);
        Due.fault("shoe boot 1 1 boot bank;", 1, 5);
        Due.fault("shoe left 1 1 left bank;", 1, 14);
        Due.fault("shoe left 1 1 bank bank;", 1, 14);
        Due.fault("shoe left 1 1 right bank;", 1, 14);
        Due.fault("shoe law 1 1 boot bank;", 1, 5);
        Due.fault("shoe left 1 1 boot boot;", 1, 19);
        Due.fault("shoe left 1 1 boot abcdefg;", 1, 19);
        Due.fault("shoe left 1 1 boot 1;", 1, 19);
        Due.fault(A + "debt bank a 1 1;", 1, 20);
        Due.fault(A + "claim bank 1;", 1, 21);
        Due.fault("swap left boot 1 boot right 1;", 1, 5);
        Due.fault("swap boot left 1 boot 1;", 1, 22);
        Due.fault("seed x;", 1, 5);
        Due.fault("seed;", 1, 4);
        Due.fault("law size 1;", 1, 4);
        Due.fault("law bank 1;", 1, 4);
        Due.fault("law or 1;", 1, 4);
        Due.fault("law worth not;", 1, 13);
        Due.fault("law", 1, 3);
    }

    private static void tooMuch() {
        Due.fault("person a 0 1 1;", 2, 9);
        Due.fault("person a 21 1 1;", 2, 9);
        Due.fault("person a 99999999999999999999 1 1;", 2, 9);
        Due.fault("person a 4294967297 1 1;", 2, 9);
        Due.fault("person a 1 100 1;", 2, 11);
        Due.fault("person a 1 1 100;", 2, 13);
        Due.fault("shoe left 0 1 boot bank;", 2, 10);
        Due.fault("shoe left 21 1 boot bank;", 2, 10);
        Due.fault("shoe left 1 50 boot bank;", 2, 12);
        Due.fault(A + "person b 1 1 1;debt a b 0 1;", 2, 39);
        Due.fault(A + "person b 1 1 1;debt a b 1000 1;", 2, 39);
        Due.fault(A + "person b 1 1 1;debt a b 1 100;", 2, 41);
        Due.fault(A + "claim a 0;", 2, 23);
        Due.fault(A + "claim a 10;", 2, 23);
        Due.fault("swap boot left 0 boot right 1;", 2, 15);
        Due.fault("swap boot left 100 boot right 1;", 2, 15);
        Due.fault("swap boot left 1 boot right 0;", 2, 28);
        Due.fault("swap boot left 1 boot right 100;", 2, 28);
        Due.fault("seed 100000;", 2, 5);
        Due.fault("law worth 10000;", 2, 10);
        String five = A + "person b 1 1 1;person c 1 1 1;person d 1 1 1;person e 1 1 1;";
        Due.sound(five, 5);
        Due.fault(five + "person f 1 1 1;", 2, 75);
        Due.fault(five + "person", 2, 75);
        String shoe = "shoe left 1 1 boot bank;";
        Due.sound(shoe.repeat(16), 16);
        Due.fault(shoe.repeat(17), 2, 16 * shoe.length());
        String two = A + "person b 1 1 1;";
        String debt = "debt a b 1 1;";
        Due.sound(two + debt.repeat(8), 10);
        Due.fault(two + debt.repeat(9), 2, two.length() + 8 * debt.length());
        String rates = "";
        String[] goods = {"boot left 1 ", "boot right 1 ", "sandal left 1 ", "felt left 1 "};
        for (int i = 0; i < 8; i++) rates += "swap " + goods[i / 3] + goods[i % 3 + (i % 3 >= i / 3 ? 1 : 0)] + ";";
        Due.sound(rates, 8);
        Due.fault(rates + "swap", 2, rates.length());
    }

    private static void toldAlready() {
        Due.fault(A + "person a 1 1 1;", 3, 22);
        Due.fault(A + "claim a 1;claim a 1;", 3, 31);
        Due.fault("swap boot left 1 felt right 1;swap boot left 2 felt right 3;", 3, 52);
        Due.sound("swap boot left 1 felt right 1;swap felt right 2 boot left 3;", 2);
        Due.fault("seed 1;seed 1;", 3, 7);
        Due.fault("seed 1;seed", 3, 7);
        Due.fault("law pair 1;law pair 2;", 3, 15);
        Due.fault("law wear 1;law wear", 3, 15);
    }

    private static void notTold() {
        Due.fault("shoe left 1 1 boot a;", 4, 19);
        Due.fault("debt a b 1 1;", 4, 5);
        Due.fault(A + "debt a b 1 1;", 4, 22);
        Due.fault("claim a 1;" + A, 4, 6);
        Due.fault(A + "claim ab 1;", 4, 21);
        Due.fault("person ab 1 1 1;claim a 1;", 4, 22);
    }

    private static void toItself() {
        Due.fault(A + "debt a a 1 1;", 5, 22);
        Due.fault("swap felt right 1 felt right 1;", 5, 23);
        Due.sound("swap felt right 1 felt left 1;swap boot right 1 felt right 1;", 2);
    }

    private static void expressions() {
        Due.fault("law worth", 1, 9);
        Due.fault("law worth;", 1, 9);
        Due.fault("law worth x;", 1, 10);
        Due.fault("law worth right;", 1, 10);
        Due.fault("law worth 1+;", 1, 12);
        Due.fault("law worth -1;", 1, 10);
        Due.fault("law worth 1 2;", 1, 12);
        Due.fault("law worth 1 size;", 1, 12);
        Due.fault("law worth 1 (2);", 1, 12);
        Due.fault("law worth 1 not 2;", 1, 12);
        Due.fault("law worth 1 + not 2;", 1, 14);
        Due.fault("law worth 1 < not 2;", 1, 14);
        Due.fault("law worth 1 < 2 < 3;", 1, 16);
        Due.fault("law worth 1 = 2 = 3;", 1, 16);
        Due.fault("law worth 1 < = 2;", 1, 14);
        Due.fault("law worth 1 < > 2;", 1, 14);
        Due.fault("law worth 1 =< 2;", 1, 13);
        Due.fault("law worth 1 => 2;", 1, 13);
        Due.fault("law worth 1 >< 2;", 1, 13);
        Due.fault("law worth 1 <>= 2;", 1, 14);
        Due.fault("law worth (1;", 1, 12);
        Due.fault("law worth (1", 1, 12);
        Due.fault("law worth 1);", 1, 11);
        Due.fault("law worth ();", 1, 11);
        Due.fault("law worth 1 or;", 1, 14);
        Due.fault("law worth and 1;", 1, 10);
        Due.fault("law worth (((((((((1)))))))));", 2, 18);
        Due.sound("law worth ((((((((1))))))));", 1);
        String knots = "law worth 1" + "+1".repeat(31) + ";law pair 0;";
        Due.is("knots of it", Due.told(knots).count(4), 64);
        Due.fault(knots + "law wear 1;", 2, knots.length() + 9);
        Due.fault("law worth " + "not ".repeat(64) + "1;", 2, 266);
        Due.sound("law worth " + "not ".repeat(63) + "1;", 1);
        Due.is("knots without brackets", Due.told("law worth (not ((size)) and (1 <> used));").count(4), 6);
    }

    private static void firstFault() {
        Due.fault("person a 0 100 1;person", 2, 9);
        Due.fault("shoe left 1 1 boot a;;", 4, 19);
        // Of one place the least: what can't stand there isn't too much.
        Due.fault("law worth ((((((((1(", 1, 19);
        Due.fault("law worth not 1" + "+1".repeat(31) + " 2", 1, 78);
        Due.fault("law worth 1 10000;", 1, 12);
    }

    private static void whatATextResets() {
        LeftShoes x = Due.told("person a 3 0 0;shoe left 3 0 boot a;");
        x.on(0);
        x.track(0, 3);
        x.known(0);
        x.keep();
        x.days(2);
        x.off(0);
        Due.is("a fault", Due.tell(x, "person a 3 0 0;shoe"), -1);
        Due.is("stays: day", x.count(5), 2);
        Due.is("stays: tracks", x.count(11), 1);
        Due.is("stays: known", x.count(12), 0);
        Due.is("stays: what can be undone", x.count(13), 1);
        Due.is("stays: shoes", x.count(1), 1);
        Due.is("its place is the length", x.fault(1), 19);
        Due.is("-2", x.text(5), -2);
        Due.is("fault of the latest that wasn't -2", x.fault(0), 1);
        Due.is("sound", Due.tell(x, "person a 3 0 0;shoe left 3 0 boot a;seed 4;"), 3);
        Due.is("no fault", x.fault(0), 0);
        Due.is("day", x.count(5), 0);
        Due.is("barefoot", x.person(0, 0), -1);
        Due.is("no tracks", x.count(11), 0);
        x.track(1, 4);
        Due.is("all known", x.count(12), 1);
        Due.is("no image", x.back(), -1);
        Due.is("nothing to undo", x.undo(), -1);
    }

    private static void named() {
        LeftShoes x = Due.told("person a 1 1 1;person zz 1 1 1;person abcdef 1 1 1;");
        Due.is("a", x.named(1 << 25), 0);
        Due.is("zz", x.named(26 << 25 | 26 << 20), 1);
        Due.is("abcdef", x.named(1 << 25 | 2 << 20 | 3 << 15 | 4 << 10 | 5 << 5 | 6), 2);
        Due.is("abcde", x.named(1 << 25 | 2 << 20 | 3 << 15 | 4 << 10 | 5 << 5), -1);
        Due.is("z", x.named(26 << 25), -1);
        Due.is("a at the end", x.named(1), -1);
        Due.is("none", x.named(0), -1);
        Due.is("below 0", x.named(-1), -1);
        Due.is("above 30 bits", x.named(1 << 25 | 1 << 30), -1);
    }
}
